/-! the reference compares for likeness -/
theorem r_growL {n L : Nat} (hL : L ≤ 2560) {m : S_Md} {re bl nb pl wr : Ar} {le : Int32} (y1 y2 : Int32) : ∀ (fuel : Nat) (ot : Ar) (s : S_Md), L - ot.1 < fuel → 256 ≤ ot.1 → ot.1 ≤ 16384 → s = Md_set_LK m re bl nb pl wr ot le → xo (L_Md_like_28 y1 y2 (nI L) n fuel s) (fun o c => ∃ ot2 : Ar, o = Md_set_LK m re bl nb pl wr ot2 le ∧ L ≤ ot2.1 ∧ 256 ≤ ot2.1 ∧ ot2.1 ≤ 16384 ∧ c + 2 * ot.1 ≤ 2 * ot2.1) := by
  intro fuel
  induction fuel with
  | zero => intro ot s h; omega
  | succ fuel ih =>
    intro ot s g1 g2 g3 es
    subst es
    rw [L_Md_like_28_s]
    refine xo_le L ot.1 rfl rfl (by omega) (by omega) (fun q => ?_) (fun q => ?_)
    · exact xo_p ⟨ot, rfl, q, g2, g3, by omega⟩
    · refine xo_na (2 * ot.1) (nI_dbl _) (by omega) (by omega) ?_
      refine xo_m (ih (2 * ot.1, fun _ => 0) _ (by show L - 2 * ot.1 < fuel; omega) (by show 256 ≤ 2 * ot.1; omega) (by show 2 * ot.1 ≤ 16384; omega) rfl) (fun o c w => ?_)
      obtain ⟨ot2, a1, a2, a3, a4, a5⟩ := w
      have a5' : c + 2 * (2 * ot.1) ≤ 2 * ot2.1 := a5
      exact ⟨ot2, a1, a2, a3, a4, by omega⟩
theorem r_cmpL {n : Nat} {s : S_Md} {W1 W2 : List Int32} (h1 : ∀ k v, W1[k]? = some v → (Md_other s).2 k = v) (h2 : ∀ k v, W2[k]? = some v → (Md_written s).2 k = v) (l1 : W1.length ≤ (Md_other s).1) (l2 : W2.length ≤ (Md_written s).1) (hl : W1.length ≤ 2560) (y1 y2 : Int32) : ∀ (fuel k : Nat) (v : Int32), W1.length - k < fuel → k ≤ W1.length → ((v = 1 ∧ W1.length = W2.length ∧ ∀ j, j < k → W1[j]? = W2[j]?) ∨ (v = 0 ∧ W1 ≠ W2)) → xo (L_Md_like_90 y1 y2 (nI W1.length) s n fuel v (nI k)) (fun o c => c = 0 ∧ ((o.1 = 1 ∧ W1 = W2) ∨ (o.1 = 0 ∧ W1 ≠ W2))) := by
  intro fuel
  induction fuel with
  | zero => intro k v h; omega
  | succ fuel ih =>
    intro k v g1 g2 hv
    rw [L_Md_like_90_s]
    refine xo_le W1.length k rfl rfl (by omega) (by omega) (fun q => ?_) (fun q => ?_)
    · refine xo_p ⟨rfl, ?_⟩
      rcases hv with ⟨v1, v2, v3⟩ | ⟨v1, v2⟩
      · refine Or.inl ⟨v1, List.ext_getElem? (fun j => ?_)⟩
        by_cases hj : j < k
        · exact v3 j hj
        · rw [List.getElem?_eq_none (by omega), List.getElem?_eq_none (by omega)]
      · exact Or.inr ⟨v1, v2⟩
    · refine xo_if (fun w => ?_) (fun w => ?_)
      · refine xo_p ⟨rfl, ?_⟩
        rcases hv with ⟨v1, v2, v3⟩ | ⟨v1, v2⟩
        · rw [v1] at w; exact absurd w (by decide)
        · exact Or.inr ⟨v1, v2⟩
      · rcases hv with ⟨v1, v2, v3⟩ | ⟨v1, v2⟩
        · have k1 : W1[k]? = some W1[k] := List.getElem?_eq_getElem q
          have k2 : W2[k]? = some (W2[k]'(by omega)) := List.getElem?_eq_getElem (by omega)
          generalize W1[k] = a1 at k1
          generalize W2[k]'(by omega) = a2 at k2
          refine xo_rd k rfl (by omega) (by omega) ?_
          rw [h2 k a2 k2]
          refine xo_rd k rfl (by omega) (by omega) ?_
          rw [h1 k a1 k1]
          refine xo_b (fun o d => d = 0 ∧ ((o = 1 ∧ a2 = a1) ∨ (o = 0 ∧ a2 ≠ a1))) (xo_if (fun e => xo_p ⟨rfl, Or.inl ⟨rfl, e⟩⟩) (fun e => xo_p ⟨rfl, Or.inr ⟨rfl, e⟩⟩)) (fun o d g => ?_)
          obtain ⟨rfl, g⟩ := g
          rw [nI_1]
          refine xo_m (ih (k + 1) o (by omega) (by omega) ?_) (fun o d g => ⟨by omega, g.2⟩)
          rcases g with ⟨e1, e2⟩ | ⟨e1, e2⟩
          · refine Or.inl ⟨e1, v2, fun j hj => ?_⟩
            by_cases ej : j = k
            · rw [ej, k1, k2, e2]
            · exact v3 j (by omega)
          · refine Or.inr ⟨e1, fun w => e2 ?_⟩
            rw [w, k2] at k1
            exact Option.some.inj k1
        · exact absurd v1 w
theorem r_like {n : Nat} (hn : 100000 ≤ n) {m : S_Md} {F : FS} {c : Nat} (hC : RM m F) (hF : FI F c) {p v : Int32} : xoM (m_Md_like n m p v) m (fun r F' => spi_like F p v r ∧ F' = F) := by
  have hC0 := hC
  obtain ⟨hL, ⟨st, hZ⟩, hMk, hD, hP, hT⟩ := hC
  have hw := hF.1
  have hb0 := hF.2.2.2.2.1
  have ht : a_t (f_z F) ≤ 512 := by omega
  have hs : a_sum (f_z F) ≤ 512 := by omega
  unfold m_Md_like
  rcases r_has (n := n) hL hZ hw ht p with ⟨x, hx, e⟩ | ⟨hx, e⟩
  · rw [e, xm_b_p, if_neg (by decide)]
    rcases r_has (n := n) hL hZ hw ht v with ⟨y, hy, e2⟩ | ⟨hy, e2⟩
    · rw [e2, xm_b_p, if_neg (by decide), hx.1, hy.1]
      refine xo_b _ (r_write (n := n) hn hL hZ hD hw ht hs hx.2) (fun o1 d1 w1 => ?_)
      obtain ⟨R1, B1, re, bl, nb, pl, wr, W1, rfl, a1, a2, a3, a4, a5, a6, a7⟩ := w1
      have hg := r_growL (n := n) (L := W1.length) a6 (m := m) (re := (32768, re)) (bl := (32768, bl)) (nb := (32768, nb)) (pl := (32768, pl)) (wr := wr) (le := nI W1.length) (nI x) (nI y) n (Md_other m) _ (by omega) hL.2.2.2.2.2.1 hL.2.2.2.2.2.2 rfl
      refine xo_b _ hg (fun o2 d2 w2 => ?_)
      obtain ⟨ot, rfl, b1, b2, b3, b4⟩ := w2
      have a12 := a1.2.1
      refine xo_cp 0 0 W1.length nI0 nI0 rfl (by show 0 + W1.length ≤ wr.1; omega) (by show 0 + W1.length ≤ ot.1; omega) (by omega) (by omega) ?_
      have hL2 : RL (Md_set_LK m (32768, re) (32768, bl) (32768, nb) (32768, pl) wr (ot.1, va_cpy wr.2 ot.2 0 0 W1.length) (nI W1.length)) := ⟨hL.1, hL.2.1, ⟨hL.2.2.1.1, rfl, rfl, rfl, rfl⟩, ⟨a1.2.2.1, a1.2.2.2, b2, b3⟩⟩
      refine xo_b _ (r_write (n := n) (nd := f_nd F) (st := st) hn hL2 hZ hD hw ht hs hy.2) (fun o3 d3 w3 => ?_)
      obtain ⟨R2, B2, re2, bl2, nb2, pl2, wr2, W2, rfl, c1, c2, c3, c4, c5, c6, c7⟩ := w3
      have hiff : W1 = W2 ↔ ∃ S, LKS (f_z F) (f_nd F) x y S := by
        rw [a5, c5]
        exact ⟨fun h => of_words hw hs a2 a3 c2 c3 a4 c4 ht h, fun ⟨S, hS⟩ => words_of hw hS a2 a3 c2 c3 n⟩
      have hco : ∀ k v, W1[k]? = some v → va_cpy wr.2 ot.2 0 0 W1.length k = v := fun k v hk => by
        have hkl := (List.getElem?_eq_some_iff.mp hk).1
        rw [pk_cpy_in (by omega) (by omega), Nat.zero_add, Nat.sub_zero]
        exact a1.1 k v hk
      refine xo_b (fun o d => d = 0 ∧ ((o = 1 ∧ W1.length = W2.length) ∨ (o = 0 ∧ W1.length ≠ W2.length))) (xo_eq W1.length W2.length rfl rfl (by omega) (by omega) (fun e => xo_p ⟨rfl, Or.inl ⟨rfl, e⟩⟩) (fun e => xo_p ⟨rfl, Or.inr ⟨rfl, e⟩⟩)) (fun o4 d4 w4 => ?_)
      obtain ⟨rfl, w4⟩ := w4
      have hcm := r_cmpL (n := n) (s := Md_set_LK (Md_set_LK m (32768, re) (32768, bl) (32768, nb) (32768, pl) wr (ot.1, va_cpy wr.2 ot.2 0 0 W1.length) (nI W1.length)) (32768, re2) (32768, bl2) (32768, nb2) (32768, pl2) wr2 (ot.1, va_cpy wr.2 ot.2 0 0 W1.length) (nI W2.length)) (W1 := W1) (W2 := W2) hco c1.1 b1 c1.2.1 a6 (nI x) (nI y) n 0 o4 (by omega) (Nat.zero_le _) (by
        rcases w4 with ⟨e1, e2⟩ | ⟨e1, e2⟩
        · exact Or.inl ⟨e1, e2, fun j hj => by omega⟩
        · exact Or.inr ⟨e1, fun w => e2 (by rw [w])⟩)
      rw [← nI0] at hcm
      refine xo_b _ hcm (fun o5 d5 w5 => ?_)
      obtain ⟨rfl, w5⟩ := w5
      have c7' : d3 + 2 * wr.1 ≤ 2 * wr2.1 := c7
      have fin : ∀ r : Int32, spi_like F (nI x) (nI y) r → xo (xm_p ((r, Md_set_LK (Md_set_LK m (32768, re) (32768, bl) (32768, nb) (32768, pl) wr (ot.1, va_cpy wr.2 ot.2 0 0 W1.length) (nI W1.length)) (32768, re2) (32768, bl2) (32768, nb2) (32768, pl2) wr2 (ot.1, va_cpy wr.2 ot.2 0 0 W1.length) (nI W2.length)) : Int32 × S_Md)) (fun o c => ∃ F', (spi_like F (nI x) (nI y) o.1 ∧ F' = F) ∧ RM o.2 F' ∧ d1 + (d2 + (d3 + (0 + (0 + c)))) + 2 * LMd m ≤ 2 * LMd o.2) := fun r hr => by
        refine xo_p ⟨F, ⟨hr, rfl⟩, ⟨⟨hL.1, hL.2.1, ⟨hL.2.2.1.1, rfl, rfl, rfl, rfl⟩, ⟨c1.2.2.1, c1.2.2.2, b2, b3⟩⟩, ⟨st, hZ⟩, hMk, hD, hP, hT⟩, ?_⟩
        show d1 + (d2 + (d3 + (0 + (0 + 0)))) + 2 * ((Md_written m).1 + (Md_other m).1) ≤ 2 * (wr2.1 + ot.1)
        omega
      rcases w5 with ⟨e5, w5⟩ | ⟨e5, w5⟩
      · rw [e5]
        exact xo_z (Or.inr rfl) (fin 1 (Or.inl ⟨x, y, ⟨rfl, hx.2⟩, ⟨rfl, hy.2⟩, hiff.mp w5, rfl⟩))
      · rw [e5]
        refine xo_z (Or.inl rfl) (fin 0 (Or.inr ⟨fun ⟨x', y', q1, q2, q3⟩ => ?_, rfl⟩))
        have e1 := a_is_inj hw ht q1 ⟨rfl, hx.2⟩
        have e2 := a_is_inj hw ht q2 ⟨rfl, hy.2⟩
        subst e1; subst e2
        exact w5 (hiff.mpr q3)
    · rw [e2, xm_b_p, if_pos rfl]
      exact r_same hC0 ⟨Or.inr ⟨fun ⟨x', y', w1, w2, w3⟩ => hy y' w2, rfl⟩, rfl⟩
  · rw [e, xm_b_p, if_pos rfl]
    exact r_same hC0 ⟨Or.inr ⟨fun ⟨x', y', w1, w2, w3⟩ => hx x' w1, rfl⟩, rfl⟩
