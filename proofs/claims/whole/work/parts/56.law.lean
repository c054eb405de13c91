/-! the law: call by call both answer alike -/
theorem ok_spi {F : FS} {c : Nat} (h : FI F c) (hc : c < 512) {sp : Int32 → Prop} (hd : ∀ r r2, sp r → sp r2 → r = r2) : spOk F c (fun r F' => sp r ∧ F' = F) := ⟨fun r r2 F1 F2 g1 g2 => ⟨hd r r2 g1.1 g2.1, g1.2.trans g2.2.symm⟩, fun r F1 g => by rw [g.2]; exact FI_up h hc⟩
def LwP (s : S_Ts) (m : S_Md) (d : Nat) (o : (Int32 × S_Ts × S_Md) ⊕ (Int32 × S_Ts × S_Md)) (c : Nat) : Prop := ∃ (e : Int32) (s2 : S_Ts) (m2 : S_Md) (F2 : FS), o = .inl (e, s2, m2) ∧ d + c + 2 * LTs s + 2 * LMd m ≤ 2 * LTs s2 + 2 * LMd m2 ∧ CT s2 F2 ∧ RM m2 F2
theorem law_S {F : FS} {k : Nat} {s : S_Ts} {m : S_Md} {sp : Int32 → FS → Prop} (hok : spOk F k sp) {o4 : Int32 × S_Ts} {o9 : Int32 × S_Md} {c4 c9 : Nat} (g4 : ∃ F', sp o4.1 F' ∧ CT o4.2 F' ∧ c4 + 2 * LTs s ≤ 2 * LTs o4.2) (g9 : ∃ F', sp o9.1 F' ∧ RM o9.2 F' ∧ c9 + 2 * LMd m ≤ 2 * LMd o9.2) {K : MO ((Int32 × S_Ts × S_Md) ⊕ (Int32 × S_Ts × S_Md))} {E : MO ((Int32 × S_Ts × S_Md) ⊕ (Int32 × S_Ts × S_Md))} (hK : ∀ F', CT o4.2 F' → RM o9.2 F' → FI F' (k + 1) → xo K (LwP o4.2 o9.2 0)) : xo (if o4.1 = o9.1 then K else E) (fun b c2 => LwP s m 0 b (c4 + (c9 + c2))) := by
  obtain ⟨F1, a1, a2, a3⟩ := g4
  obtain ⟨F2, b1, b2, b3⟩ := g9
  obtain ⟨e1, e2⟩ := hok.1 _ _ _ _ a1 b1
  subst e2
  rw [if_pos e1]
  refine xo_m (hK F1 a2 b2 (hok.2 _ _ a1)) (fun o c w => ?_)
  obtain ⟨e, s2, m2, F3, w1, w2, w3, w4⟩ := w
  exact ⟨e, s2, m2, F3, w1, by omega, w3, w4⟩
theorem law_O {F : FS} {k : Nat} (hF : FI F k) (hc : k < 512) {s : S_Ts} {m : S_Md} (hC : CT s F) (hR : RM m F) {o4 o9 : Int32} {c4 c9 : Nat} (h4 : c4 = 0) (h9 : c9 = 0) (e : o4 = o9) {K : MO ((Int32 × S_Ts × S_Md) ⊕ (Int32 × S_Ts × S_Md))} {E : MO ((Int32 × S_Ts × S_Md) ⊕ (Int32 × S_Ts × S_Md))} (hK : ∀ F', CT s F' → RM m F' → FI F' (k + 1) → xo K (LwP s m 0)) : xo (if o4 = o9 then K else E) (fun b c2 => LwP s m 0 b (c4 + (c9 + c2))) := by
  rw [if_pos e]
  refine xo_m (hK F hC hR (FI_up hF hc)) (fun o c w => ?_)
  obtain ⟨e, s2, m2, F3, w1, w2, w3, w4⟩ := w
  exact ⟨e, s2, m2, F3, w1, by omega, w3, w4⟩
theorem law_end {L k : Nat} (hL : L ≤ 2560) (hk : 5 * k ≤ L) (h : ¬ (nI L - 5 < nI (5 * k))) : 5 * k + 5 ≤ L := by
  by_cases h5 : 5 ≤ L
  · have e : nI L - 5 = nI (L - 5) := by
      have e1 : nI L = nI (L - 5) + 5 := by
        have := nI_add (L - 5) 5
        rw [show L - 5 + 5 = L by omega] at this
        exact this.symm
      rw [e1, Int32.add_sub_cancel]
    rw [e] at h
    have h6 : ¬ (L - 5 < 5 * k) := fun q => h ((nI_ltI (a := L - 5) (b := 5 * k) (by omega) (by omega)).mpr q)
    omega
  · exfalso
    have hk0 : k = 0 := by omega
    subst hk0
    have hd : ∀ L : Fin 5, nI L.1 - 5 < nI (5 * 0) := by decide +kernel
    exact h (hd ⟨L, by omega⟩)
theorem law_loop {L : Nat} (hL : L ≤ 2560) {xs : Nat → Int32} {n : Nat} (hn : 100000 ≤ n) : ∀ (fuel k : Nat) (s : S_Ts) (m : S_Md) (F : FS), 512 - k < fuel → 5 * k ≤ L → CT s F → RM m F → FI F k → xo (L_Law_18 (L, xs) n fuel (nI (5 * k)) s m) (LwP s m 0) := by
  intro fuel
  induction fuel with
  | zero => intro k s m F h; omega
  | succ fuel ih =>
    intro k s m F h1 h2 hC hR hF
    rw [L_Law_18_s]
    refine xo_if (fun _ => xo_p ⟨_, s, m, F, rfl, by omega, hC, hR⟩) (fun hq => ?_)
    have h5 : 5 * k + 5 ≤ L := law_end hL h2 hq
    have hc : k < 512 := by omega
    have e5 : nI (5 * k) + 5 = nI (5 * (k + 1)) := nI_add (5 * k) 5
    have i1 : nI (5 * k) + 1 = nI (5 * k + 1) := nI_add (5 * k) 1
    have i2 : nI (5 * k) + 2 = nI (5 * k + 2) := nI_add (5 * k) 2
    have i3 : nI (5 * k) + 3 = nI (5 * k + 3) := nI_add (5 * k) 3
    have i4 : nI (5 * k) + 4 = nI (5 * k + 4) := nI_add (5 * k) 4
    rw [e5]
    have next : ∀ (s2 : S_Ts) (m2 : S_Md) (F' : FS), CT s2 F' → RM m2 F' → FI F' (k + 1) → xo (L_Law_18 (L, xs) n fuel (nI (5 * (k + 1))) s2 m2) (LwP s2 m2 0) := fun s2 m2 F' a b c => ih (k + 1) s2 m2 F' (by omega) (by omega) a b c
    refine xo_rd (5 * k) rfl (show 5 * k < L by omega) (by omega) ?_
    refine xo_if (fun _ => ?_) (fun _ => ?_)
    · refine xo_b _ (c_variable hn hC hF hc) (fun o4 c4 g4 => ?_)
      refine xo_b _ (r_variable hn hR hF hc) (fun o9 c9 g9 => ?_)
      exact law_S (ok_make hF hc (Or.inl rfl) (fun _ => rfl)) g4 g9 (fun F' a b c => next _ _ F' a b c)
    refine xo_if (fun _ => ?_) (fun _ => ?_)
    · refine xo_rd (5 * k + 1) i1 (show 5 * k + 1 < L by omega) (by omega) ?_
      refine xo_b _ (c_number hn hC hF hc) (fun o4 c4 g4 => ?_)
      refine xo_rd (5 * k + 1) i1 (show 5 * k + 1 < L by omega) (by omega) ?_
      refine xo_b _ (r_number hn hR hF hc) (fun o9 c9 g9 => ?_)
      exact law_S (ok_make hF hc (Or.inr (Or.inl rfl)) (fun q => absurd q (by decide))) g4 g9 (fun F' a b c => next _ _ F' a b c)
    refine xo_if (fun _ => ?_) (fun _ => ?_)
    · refine xo_rd (5 * k + 1) i1 (show 5 * k + 1 < L by omega) (by omega) ?_
      refine xo_b _ (c_atom hn hC hF hc) (fun o4 c4 g4 => ?_)
      refine xo_rd (5 * k + 1) i1 (show 5 * k + 1 < L by omega) (by omega) ?_
      refine xo_b _ (r_atom hn hR hF hc) (fun o9 c9 g9 => ?_)
      exact law_S (ok_atom hF hc) g4 g9 (fun F' a b c => next _ _ F' a b c)
    refine xo_if (fun _ => ?_) (fun _ => ?_)
    · refine xo_rd (5 * k + 1) i1 (show 5 * k + 1 < L by omega) (by omega) ?_
      refine xo_rd (5 * k + 2) i2 (show 5 * k + 2 < L by omega) (by omega) ?_
      refine xo_b _ (c_push hn hC hF) (fun o4 c4 g4 => ?_)
      refine xo_rd (5 * k + 1) i1 (show 5 * k + 1 < L by omega) (by omega) ?_
      refine xo_rd (5 * k + 2) i2 (show 5 * k + 2 < L by omega) (by omega) ?_
      refine xo_b _ (r_push hn hR hF) (fun o9 c9 g9 => ?_)
      exact law_S (ok_push hF hc) g4 g9 (fun F' a b c => next _ _ F' a b c)
    refine xo_if (fun _ => ?_) (fun _ => ?_)
    · refine xo_rd (5 * k + 1) i1 (show 5 * k + 1 < L by omega) (by omega) ?_
      refine xo_b _ (c_record hn hC hF hc) (fun o4 c4 g4 => ?_)
      refine xo_rd (5 * k + 1) i1 (show 5 * k + 1 < L by omega) (by omega) ?_
      refine xo_b _ (r_record hn hR hF hc) (fun o9 c9 g9 => ?_)
      exact law_S (ok_record hF hc) g4 g9 (fun F' a b c => next _ _ F' a b c)
    refine xo_if (fun _ => ?_) (fun _ => ?_)
    · refine xo_rd (5 * k + 1) i1 (show 5 * k + 1 < L by omega) (by omega) ?_
      refine xo_b _ (c_thing hn hC hF hc) (fun o4 c4 g4 => ?_)
      refine xo_rd (5 * k + 1) i1 (show 5 * k + 1 < L by omega) (by omega) ?_
      refine xo_b _ (r_thing hn hR hF hc) (fun o9 c9 g9 => ?_)
      exact law_S (ok_thing hF hc) g4 g9 (fun F' a b c => next _ _ F' a b c)
    refine xo_if (fun _ => ?_) (fun _ => ?_)
    · refine xo_rd (5 * k + 1) i1 (show 5 * k + 1 < L by omega) (by omega) ?_
      refine xo_rd (5 * k + 2) i2 (show 5 * k + 2 < L by omega) (by omega) ?_
      refine xo_b _ (c_tell hn hC hF) (fun o4 c4 g4 => ?_)
      refine xo_rd (5 * k + 1) i1 (show 5 * k + 1 < L by omega) (by omega) ?_
      refine xo_rd (5 * k + 2) i2 (show 5 * k + 2 < L by omega) (by omega) ?_
      refine xo_b _ (r_tell hn hR hF) (fun o9 c9 g9 => ?_)
      exact law_S (ok_tell hF hc) g4 g9 (fun F' a b c => next _ _ F' a b c)
    refine xo_if (fun _ => ?_) (fun _ => ?_)
    · refine xo_rd (5 * k + 1) i1 (show 5 * k + 1 < L by omega) (by omega) ?_
      refine xo_rd (5 * k + 2) i2 (show 5 * k + 2 < L by omega) (by omega) ?_
      refine xo_b _ (c_ask hn hC hF) (fun o4 c4 g4 => ?_)
      refine xo_rd (5 * k + 1) i1 (show 5 * k + 1 < L by omega) (by omega) ?_
      refine xo_rd (5 * k + 2) i2 (show 5 * k + 2 < L by omega) (by omega) ?_
      refine xo_b _ (r_ask hn hR hF) (fun o9 c9 g9 => ?_)
      exact law_S (ok_spi hF hc (fun r r2 h1 h2 => ok_ask hF h1 h2)) g4 g9 (fun F' a b c => next _ _ F' a b c)
    refine xo_if (fun _ => ?_) (fun _ => ?_)
    · refine xo_rd (5 * k + 1) i1 (show 5 * k + 1 < L by omega) (by omega) ?_
      refine xo_rd (5 * k + 2) i2 (show 5 * k + 2 < L by omega) (by omega) ?_
      refine xo_rd (5 * k + 3) i3 (show 5 * k + 3 < L by omega) (by omega) ?_
      refine xo_b _ (c_hangs hn hC hF) (fun o4 c4 g4 => ?_)
      refine xo_rd (5 * k + 1) i1 (show 5 * k + 1 < L by omega) (by omega) ?_
      refine xo_rd (5 * k + 2) i2 (show 5 * k + 2 < L by omega) (by omega) ?_
      refine xo_rd (5 * k + 3) i3 (show 5 * k + 3 < L by omega) (by omega) ?_
      refine xo_b _ (r_hangs hn hR hF) (fun o9 c9 g9 => ?_)
      exact law_S (ok_spi hF hc (fun r r2 h1 h2 => ok_hangs hF h1 h2)) g4 g9 (fun F' a b c => next _ _ F' a b c)
    refine xo_if (fun _ => ?_) (fun _ => ?_)
    · refine xo_rd (5 * k + 1) i1 (show 5 * k + 1 < L by omega) (by omega) ?_
      refine xo_b _ (c_need hC hF) (fun o4 c4 g4 => ?_)
      refine xo_rd (5 * k + 1) i1 (show 5 * k + 1 < L by omega) (by omega) ?_
      refine xo_b _ (r_need hn hR hF) (fun o9 c9 g9 => ?_)
      exact law_S (ok_need hF hc) g4 g9 (fun F' a b c => next _ _ F' a b c)
    refine xo_if (fun _ => ?_) (fun _ => ?_)
    · refine xo_rd (5 * k + 1) i1 (show 5 * k + 1 < L by omega) (by omega) ?_
      refine xo_b _ (c_touched hC) (fun o4 c4 g4 => ?_)
      refine xo_rd (5 * k + 1) i1 (show 5 * k + 1 < L by omega) (by omega) ?_
      refine xo_b _ (r_touched hR) (fun o9 c9 g9 => ?_)
      exact law_O hF hc hC hR g4.1 g9.1 (ok_touched hF g4.2 g9.2) (fun F' a b c => next _ _ F' a b c)
    refine xo_if (fun _ => ?_) (fun _ => ?_)
    · refine xo_rd (5 * k + 1) i1 (show 5 * k + 1 < L by omega) (by omega) ?_
      refine xo_rd (5 * k + 2) i2 (show 5 * k + 2 < L by omega) (by omega) ?_
      refine xo_rd (5 * k + 3) i3 (show 5 * k + 3 < L by omega) (by omega) ?_
      refine xo_rd (5 * k + 4) i4 (show 5 * k + 4 < L by omega) (by omega) ?_
      refine xo_b _ (c_look hn hC hF) (fun o4 c4 g4 => ?_)
      refine xo_rd (5 * k + 1) i1 (show 5 * k + 1 < L by omega) (by omega) ?_
      refine xo_rd (5 * k + 2) i2 (show 5 * k + 2 < L by omega) (by omega) ?_
      refine xo_rd (5 * k + 3) i3 (show 5 * k + 3 < L by omega) (by omega) ?_
      refine xo_rd (5 * k + 4) i4 (show 5 * k + 4 < L by omega) (by omega) ?_
      refine xo_b _ (r_look hn hR hF) (fun o9 c9 g9 => ?_)
      exact law_O hF hc hC hR g4.1 g9.1 (ok_look hF g4.2 g9.2) (fun F' a b c => next _ _ F' a b c)
    refine xo_if (fun _ => ?_) (fun _ => ?_)
    · refine xo_rd (5 * k + 1) i1 (show 5 * k + 1 < L by omega) (by omega) ?_
      refine xo_rd (5 * k + 2) i2 (show 5 * k + 2 < L by omega) (by omega) ?_
      refine xo_rd (5 * k + 3) i3 (show 5 * k + 3 < L by omega) (by omega) ?_
      refine xo_rd (5 * k + 4) i4 (show 5 * k + 4 < L by omega) (by omega) ?_
      refine xo_b _ (c_feature hn hC hF) (fun o4 c4 g4 => ?_)
      refine xo_rd (5 * k + 1) i1 (show 5 * k + 1 < L by omega) (by omega) ?_
      refine xo_rd (5 * k + 2) i2 (show 5 * k + 2 < L by omega) (by omega) ?_
      refine xo_rd (5 * k + 3) i3 (show 5 * k + 3 < L by omega) (by omega) ?_
      refine xo_rd (5 * k + 4) i4 (show 5 * k + 4 < L by omega) (by omega) ?_
      refine xo_b _ (r_feature hn hR hF) (fun o9 c9 g9 => ?_)
      exact law_O hF hc hC hR g4.1 g9.1 (ok_feature hF g4.2 g9.2) (fun F' a b c => next _ _ F' a b c)
    refine xo_if (fun _ => ?_) (fun _ => ?_)
    · refine xo_rd (5 * k + 1) i1 (show 5 * k + 1 < L by omega) (by omega) ?_
      refine xo_rd (5 * k + 2) i2 (show 5 * k + 2 < L by omega) (by omega) ?_
      refine xo_b _ (c_part hn hC hF) (fun o4 c4 g4 => ?_)
      refine xo_rd (5 * k + 1) i1 (show 5 * k + 1 < L by omega) (by omega) ?_
      refine xo_rd (5 * k + 2) i2 (show 5 * k + 2 < L by omega) (by omega) ?_
      refine xo_b _ (r_part hn hR hF) (fun o9 c9 g9 => ?_)
      exact law_O hF hc hC hR g4.1 g9.1 (ok_part hF g4.2 g9.2) (fun F' a b c => next _ _ F' a b c)
    refine xo_if (fun _ => ?_) (fun _ => ?_)
    · refine xo_rd (5 * k + 1) i1 (show 5 * k + 1 < L by omega) (by omega) ?_
      refine xo_rd (5 * k + 2) i2 (show 5 * k + 2 < L by omega) (by omega) ?_
      refine xo_rd (5 * k + 3) i3 (show 5 * k + 3 < L by omega) (by omega) ?_
      refine xo_b _ (c_set hn hC hF) (fun o4 c4 g4 => ?_)
      refine xo_rd (5 * k + 1) i1 (show 5 * k + 1 < L by omega) (by omega) ?_
      refine xo_rd (5 * k + 2) i2 (show 5 * k + 2 < L by omega) (by omega) ?_
      refine xo_rd (5 * k + 3) i3 (show 5 * k + 3 < L by omega) (by omega) ?_
      refine xo_b _ (r_set hn hR hF) (fun o9 c9 g9 => ?_)
      exact law_S (ok_set hF hc) g4 g9 (fun F' a b c => next _ _ F' a b c)
    refine xo_if (fun _ => ?_) (fun _ => ?_)
    · refine xo_rd (5 * k + 1) i1 (show 5 * k + 1 < L by omega) (by omega) ?_
      refine xo_rd (5 * k + 2) i2 (show 5 * k + 2 < L by omega) (by omega) ?_
      refine xo_b _ (c_like hn hC hF) (fun o4 c4 g4 => ?_)
      refine xo_rd (5 * k + 1) i1 (show 5 * k + 1 < L by omega) (by omega) ?_
      refine xo_rd (5 * k + 2) i2 (show 5 * k + 2 < L by omega) (by omega) ?_
      refine xo_b _ (r_like hn hR hF) (fun o9 c9 g9 => ?_)
      exact law_S (ok_spi hF hc (fun r r2 h1 h2 => ok_like h1 h2)) g4 g9 (fun F' a b c => next _ _ F' a b c)
    refine xo_if (fun _ => ?_) (fun _ => ?_)
    · refine xo_rd (5 * k + 1) i1 (show 5 * k + 1 < L by omega) (by omega) ?_
      refine xo_b _ (c_mark hn hC hF) (fun o4 c4 g4 => ?_)
      refine xo_rd (5 * k + 1) i1 (show 5 * k + 1 < L by omega) (by omega) ?_
      refine xo_b _ (r_mark hn hR hF) (fun o9 c9 g9 => ?_)
      exact law_S (ok_mark hF hc) g4 g9 (fun F' a b c => next _ _ F' a b c)
    refine xo_if (fun _ => ?_) (fun _ => ?_)
    · refine xo_b _ (c_sweep hn hC hF) (fun o4 c4 g4 => ?_)
      refine xo_b _ (r_sweep hn hR hF) (fun o9 c9 g9 => ?_)
      exact law_S (ok_sweep hF hc) g4 g9 (fun F' a b c => next _ _ F' a b c)
    refine xo_if (fun _ => ?_) (fun _ => ?_)
    · refine xo_b _ (c_clear hn hC hF) (fun o4 c4 g4 => ?_)
      refine xo_b _ (r_clear hn hR hF) (fun o9 c9 g9 => ?_)
      exact law_S (ok_clear hF hc) g4 g9 (fun F' a b c => next _ _ F' a b c)
    refine xo_if (fun _ => ?_) (fun _ => ?_)
    · refine xo_rd (5 * k + 1) i1 (show 5 * k + 1 < L by omega) (by omega) ?_
      refine xo_b _ (c_count hn hC hF) (fun o4 c4 g4 => ?_)
      refine xo_rd (5 * k + 1) i1 (show 5 * k + 1 < L by omega) (by omega) ?_
      refine xo_b _ (r_count hn hR hF) (fun o9 c9 g9 => ?_)
      exact law_O hF hc hC hR g4.1 g9.1 (g4.2.trans g9.2.symm) (fun F' a b c => next _ _ F' a b c)
    exact next s m F hC hR (FI_up hF hc)
theorem CT_len {s : S_Ts} {F : FS} (h : CT s F) : LTs s ≤ 106496 := by
  obtain ⟨⟨st, bd, lw, ⟨a1, a2, a3, a4, a5, a6, a7, a8⟩, ⟨b1, b2, b3, b4, b5⟩, -⟩, -, -, ⟨c1, c2, -⟩, ⟨d1, -⟩, ⟨e1, e2, e3, e4, e5, e6⟩, ⟨f1, f2, f3, f4⟩⟩ := h
  unfold LTs LNo LPu LTr LLk
  have := a1.2.1; have := a2.2.1; have := a3.2.1; have := a4.2.1; have := a5.2.1; have := a6.2.1; have := a7.2.1; have := a8.2.1
  have := b1.2.1; have := b2.2.1; have := b3.2.1; have := b4.2.1; have := b5.2.1
  have := c1.2.1; have := c2.2.1; have := d1.2.1
  have := e1.2.1; have := e2.2.1; have := e3.2.1; have := e4.2.1; have := e5.2.1; have := e6.2.1
  have := f1.2.1; have := f2.2.1; have := f3.2.1; have := f4.2.1
  omega
theorem RM_len {m : S_Md} {F : FS} (h : RM m F) : LMd m ≤ 32768 := by
  have := h.1.2.2.2.2.1
  have := h.1.2.2.2.2.2.2
  unfold LMd
  omega
theorem law_all {L : Nat} (hL : L ≤ 2560) {xs : Nat → Int32} {n : Nat} (hn : 100000 ≤ n) : xq (m_Law n (L, xs)) (fun o c d => o = 1 ∧ c ≤ 60000 ∧ d ≤ 8922250) := by
  unfold m_Law
  refine xq_al (xq_b _ q_Ts (fun s c1 d1 g1 => ?_))
  obtain ⟨rfl, rfl, rfl⟩ := g1
  refine xq_al (xq_b _ (q_Md hn) (fun m c2 d2 g2 => ?_))
  obtain ⟨g2, g3, rfl⟩ := g2
  have hh := xq_o (law_loop (n := n) (xs := xs) hL hn n 0 _ _ F_0 (by omega) (by omega) CT_0 g2 FI_0)
  rw [show nI (5 * 0) = (0 : Int32) from nI_0] at hh
  refine xq_b _ hh (fun o c3 d3 g4 => ?_)
  obtain ⟨g4, e, s2, m2, F2, rfl, g5, g6, g7⟩ := g4
  have h1 := CT_len g6
  have h2 := RM_len g7
  refine xq_p ⟨rfl, ?_, ?_⟩
  · show 1 + (36 + (1 + (c2 + (c3 + 0)))) ≤ 60000
    omega
  · show 5 + (461 + (26 + (590846 + (d3 + 0)))) ≤ 8922250
    omega
