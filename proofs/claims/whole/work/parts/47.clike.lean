/-! the class compares for likeness -/
theorem nI_dbl (a : Nat) : (2 : Int32) * nI a = nI (2 * a) := (Int32.ofNat_mul 2 a).symm
theorem nI_halfF : ∀ a : Fin 1100, nI a.1 >>> ((1 : Int32) &&& 31) = nI (a.1 / 2) := by decide +kernel
theorem nI_sideF : ∀ a : Fin 1100, nI a.1 &&& (1 : Int32) = nI (a.1 % 2) := by decide +kernel
theorem nI_half {a : Nat} (h : a < 1100) : nI a >>> ((1 : Int32) &&& 31) = nI (a / 2) := nI_halfF ⟨a, h⟩
theorem nI_side {a : Nat} (h : a < 1100) : nI a &&& (1 : Int32) = nI (a % 2) := nI_sideF ⟨a, h⟩
def LV (s : S_Lk) (z : AS) (f : Nat → Nat) (gv : Nat → Bool) (P : List (Nat × Nat)) : Prop :=
  ArOk (Lk_up s) (2 * a_t z) ∧ ArOk (Lk_given s) (2 * a_t z) ∧ CPr (Lk_pairs s) P ∧ (∀ i, i < 2 * a_t z → (Lk_up s).2 i = nI (f i)) ∧ (∀ i, i < 2 * a_t z → (Lk_given s).2 i = if gv i then 1 else 0)
theorem LV_CLk {s : S_Lk} {z : AS} {f : Nat → Nat} {gv : Nat → Bool} {P : List (Nat × Nat)} (h : LV s z f gv P) : CLk s := by
  obtain ⟨v1, v2, ⟨q1, q2, -⟩, -⟩ := h
  exact ⟨⟨q1.1, q1.2.1, Nat.zero_le _⟩, ⟨q2.1, q2.2.1, Nat.zero_le _⟩, ⟨v1.1, v1.2.1, Nat.zero_le _⟩, ⟨v2.1, v2.2.1, Nat.zero_le _⟩⟩
theorem o_apartL {n T : Nat} {s1 : S_No} (hT : T ≤ 2048) : ∀ (fuel i : Nat) (s : S_Lk), T - i < fuel → i ≤ T → T ≤ (Lk_up s).1 → T ≤ (Lk_given s).1 → (∀ j, j < i → (Lk_up s).2 j = nI j ∧ (Lk_given s).2 j = 0) → xo (L_Lk_standApart_36 (nI T) s1 n fuel (nI i) s) (fun o c => c = 0 ∧ Lk_pairs o.2 = Lk_pairs s ∧ (Lk_up o.2).1 = (Lk_up s).1 ∧ (Lk_given o.2).1 = (Lk_given s).1 ∧ ∀ j, j < T → (Lk_up o.2).2 j = nI j ∧ (Lk_given o.2).2 j = 0) := by
  intro fuel
  induction fuel with
  | zero => intro i s h; omega
  | succ fuel ih =>
    intro i s h1 h2 h3 h4 h5
    rw [L_Lk_standApart_36_s]
    refine xo_le T i rfl rfl (by omega) (by omega) (fun q => ?_) (fun q => ?_)
    · have : i = T := by omega
      subst this
      exact xo_p ⟨rfl, rfl, rfl, rfl, h5⟩
    · refine xo_wr i rfl (by omega) (by omega) ?_
      refine xo_wr i rfl (by omega) (by omega) ?_
      rw [nI_1]
      refine xo_m (ih (i + 1) _ (by omega) (by omega) h3 h4 (fun j hj => ?_)) (fun o c g => g)
      show upd (Lk_up s).2 i (nI i) j = nI j ∧ upd (Lk_given s).2 i 0 j = 0
      rw [upd_at, upd_at]
      by_cases e : j = i
      · rw [if_pos e, if_pos e, e]; exact ⟨rfl, rfl⟩
      · rw [if_neg e, if_neg e]; exact h5 j (by omega)
theorem o_give {n : Nat} {s1 : S_No} {z : AS} {st bd : Nat → Nat} {u lw : Nat} {nd : Nat → Prop} (hC : CN s1 z st bd u lw) (hD : CD s1 z nd) (hw : a_wf z) {s : S_Lk} {f : Nat → Nat} {gv : Nat → Bool} {P : List (Nat × Nat)} (hV : LV s z f gv P) {a b : Nat} (ca : cod z a) (cb : cod z b) : xo (m_Lk_give n s s1 (nI a) (nI b)) (fun o c => c = 0 ∧ ((o.1 = 0 ∧ o.2 = s ∧ ¬ (a % 2 ≠ b % 2 ∧ (a_nd z nd (a / 2) ↔ a_nd z nd (b / 2)) ∧ gv a = false ∧ gv b = false)) ∨ (o.1 = 1 ∧ (a % 2 ≠ b % 2 ∧ (a_nd z nd (a / 2) ↔ a_nd z nd (b / 2)) ∧ gv a = false ∧ gv b = false) ∧ LLk o.2 = LLk s ∧ ∃ gv2 : Nat → Bool, (∀ i, gv2 i = true ↔ (gv i = true ∨ i = a ∨ i = b)) ∧ LV o.2 z f gv2 P))) := by
  have ht := hC.2.2.2.2.2.2.2.2.2.2.2.2.2.2.1
  have hla := cod_lt hw ca
  have hlb := cod_lt hw cb
  obtain ⟨v1, v2, v3, v4, v5⟩ := hV
  have b2 := v2.2.2
  unfold m_Lk_give
  rw [nI_side (by omega), nI_side (by omega), nI_half (by omega), nI_half (by omega)]
  refine xo_b (fun o c => c = 0 ∧ ((o = 1 ∧ a % 2 = b % 2) ∨ (o = 0 ∧ a % 2 ≠ b % 2))) (xo_eq _ _ rfl rfl (by omega) (by omega) (fun e => xo_p ⟨rfl, Or.inl ⟨rfl, e⟩⟩) (fun e => xo_p ⟨rfl, Or.inr ⟨rfl, e⟩⟩)) (fun o c g => ?_)
  obtain ⟨rfl, g⟩ := g
  rcases g with ⟨rfl, hs⟩ | ⟨rfl, hs⟩
  · rw [if_neg (by decide)]
    exact xo_p ⟨rfl, Or.inl ⟨rfl, rfl, fun w => w.1 hs⟩⟩
  · rw [if_pos rfl]
    refine xo_rd a rfl (by omega) (by omega) ?_
    rw [v5 a hla]
    cases hga : gv a with
    | true =>
      rw [if_pos rfl, if_pos rfl]
      exact xo_p ⟨rfl, Or.inl ⟨rfl, rfl, fun w => absurd w.2.2.1 (by decide)⟩⟩
    | false =>
      rw [if_neg (by decide)]
      refine xo_rd b rfl (by omega) (by omega) ?_
      rw [v5 b hlb]
      cases hgb : gv b with
      | true =>
        rw [if_pos rfl, if_pos rfl]
        exact xo_p ⟨rfl, Or.inl ⟨rfl, rfl, fun w => absurd w.2.2.2 (by decide)⟩⟩
      | false =>
        rw [if_neg (by decide)]
        have done : (a_nd z nd (a / 2) ↔ a_nd z nd (b / 2)) → xo (xm_wr (Lk_given s) (nI a) (1 : Int32) (fun a40 => (xm_wr a40 (nI b) (1 : Int32) (fun a41 => (xm_p (((1 : Int32), ((Lk_pairs s), (Lk_up s), a41)) : Int32 × S_Lk)))))) (fun o c => 0 + c = 0 ∧ ((o.1 = 0 ∧ o.2 = s ∧ ¬ (a % 2 ≠ b % 2 ∧ (a_nd z nd (a / 2) ↔ a_nd z nd (b / 2)) ∧ false = false ∧ false = false)) ∨ (o.1 = 1 ∧ (a % 2 ≠ b % 2 ∧ (a_nd z nd (a / 2) ↔ a_nd z nd (b / 2)) ∧ false = false ∧ false = false) ∧ LLk o.2 = LLk s ∧ ∃ gv2 : Nat → Bool, (∀ i, gv2 i = true ↔ (gv i = true ∨ i = a ∨ i = b)) ∧ LV o.2 z f gv2 P))) := fun hnd => by
          refine xo_wr a rfl (by omega) (by omega) ?_
          refine xo_wr b rfl (by show b < (Lk_given s).1; omega) (by omega) ?_
          refine xo_p ⟨rfl, Or.inr ⟨rfl, ⟨hs, hnd, rfl, rfl⟩, rfl, fun i => gv i || decide (i = a) || decide (i = b), fun i => by simp [or_assoc], v1, ⟨v2.1, v2.2.1, v2.2.2⟩, v3, v4, fun i hi => ?_⟩⟩
          show upd (upd (Lk_given s).2 a 1) b 1 i = if (gv i || decide (i = a) || decide (i = b)) then 1 else 0
          rw [upd_at, upd_at]
          by_cases e1 : i = b
          · simp [e1]
          · by_cases e2 : i = a
            · simp [e2]
            · rw [if_neg e1, if_neg e2, v5 i hi]
              simp [e1, e2]
        rcases o_isNeeded (n := n) hC hD hw ca.1 with ⟨n1, e1⟩ | ⟨n1, e1⟩ <;> rcases o_isNeeded (n := n) hC hD hw cb.1 with ⟨n2, e2⟩ | ⟨n2, e2⟩
        · rw [e1, xm_b_p, e2, xm_b_p, if_pos rfl]
          exact done ⟨fun _ => n2, fun _ => n1⟩
        · rw [e1, xm_b_p, e2, xm_b_p, if_neg (by decide)]
          exact xo_p ⟨rfl, Or.inl ⟨rfl, rfl, fun w => n2 (w.2.1.mp n1)⟩⟩
        · rw [e1, xm_b_p, e2, xm_b_p, if_neg (by decide)]
          exact xo_p ⟨rfl, Or.inl ⟨rfl, rfl, fun w => n1 (w.2.1.mpr n2)⟩⟩
        · rw [e1, xm_b_p, e2, xm_b_p, if_pos rfl]
          exact done ⟨fun w => absurd w n1, fun w => absurd w n2⟩
theorem o_ljL {n : Nat} {s1 : S_No} {z : AS} {st bd : Nat → Nat} {u lw : Nat} (hC : CN s1 z st bd u lw) (hw : a_wf z) {a b A B : Nat} (ha : a < 1100) (hb0 : b < 1100) (hA : al z A) (hB : al z B) (hl : (a_fl z A).length = (a_fl z B).length) {f : Nat → Nat} {gv : Nat → Bool} {P : List (Nat × Nat)} (hb : P.length + (a_fl z A).length < 1100) (y5 : Int32) : ∀ (fuel k : Nat) (s : S_Lk), (a_fl z A).length - k < fuel → k ≤ (a_fl z A).length → LV s z f gv (P ++ (List.zipWith (fun q q2 => (2 * a_ld z q.2 + a % 2, 2 * a_ld z q2.2 + b % 2)) (a_fl z A) (a_fl z B)).take k) → xo (L_Lk_join_98 (nI a) (nI b) (nI A) (nI B) y5 s1 n fuel (nI k) s) (fun o c => LV o.2 z f gv (P ++ List.zipWith (fun q q2 => (2 * a_ld z q.2 + a % 2, 2 * a_ld z q2.2 + b % 2)) (a_fl z A) (a_fl z B)) ∧ c + 2 * LLk s ≤ 2 * LLk o.2) := by
  have ht := hC.2.2.2.2.2.2.2.2.2.2.2.2.2.2.1
  have hu := hC.2.2.2.2.2.2.2.2.2.2.2.2.2.2.2
  have l1 := hC.1.2.2.1.2.2
  have l2 := hC.1.2.2.2.1.2.2
  have hal := al_lt hw hA
  have hbl := al_lt hw hB
  have h8a := hC.2.2.2.2.2.2.2.2.2.2.1 _ hA
  have h8b := hC.2.2.2.2.2.2.2.2.2.2.1 _ hB
  have hzl : (List.zipWith (fun q q2 : Int32 × Nat => (2 * a_ld z q.2 + a % 2, 2 * a_ld z q2.2 + b % 2)) (a_fl z A) (a_fl z B)).length = (a_fl z A).length := by rw [List.length_zipWith, hl, Nat.min_self]
  intro fuel
  induction fuel with
  | zero => intro k s h; omega
  | succ fuel ih =>
    intro k s h1 h2 hV
    rw [L_Lk_join_98_s]
    refine xo_rd A rfl (by omega) (by omega) ?_
    rw [hC.2.2.2.2.2.1 A hal]
    refine xo_le _ _ rfl rfl (by omega) (by omega) (fun q => ?_) (fun q => ?_)
    · rw [List.take_of_length_le (by omega)] at hV
      exact xo_p ⟨hV, by show 0 + 2 * LLk s ≤ 2 * LLk s; omega⟩
    · have hqa : (a_fl z A)[k]? = some (a_fl z A)[k] := List.getElem?_eq_getElem q
      have hqb : (a_fl z B)[k]? = some (a_fl z B)[k] := List.getElem?_eq_getElem (by omega)
      refine xo_rd A rfl (by omega) (by omega) ?_
      rw [hC.2.2.2.2.2.2.1 A hA, nI_add, o_partLeader hC hw hA hqa, xm_b_p]
      refine xo_rd B rfl (by omega) (by omega) ?_
      rw [hC.2.2.2.2.2.2.1 B hB, nI_add, o_partLeader hC hw hB hqb, xm_b_p, nI_side ha, nI_side hb0, nI_dbl, nI_dbl, nI_add, nI_add]
      obtain ⟨w1, w2, w3, w4⟩ := hV
      have hlen : (P ++ (List.zipWith (fun q q2 : Int32 × Nat => (2 * a_ld z q.2 + a % 2, 2 * a_ld z q2.2 + b % 2)) (a_fl z A) (a_fl z B)).take k).length = P.length + k := by
        rw [List.length_append, List.length_take, hzl]
        omega
      refine xo_b _ (o_pappend (n := n) (u := 2 * a_ld z (a_fl z A)[k].2 + a % 2) (v := 2 * a_ld z (a_fl z B)[k].2 + b % 2) w3 (by omega)) (fun o c g => ?_)
      obtain ⟨g1, g2⟩ := g
      have et : (P ++ (List.zipWith (fun q q2 : Int32 × Nat => (2 * a_ld z q.2 + a % 2, 2 * a_ld z q2.2 + b % 2)) (a_fl z A) (a_fl z B)).take k) ++ [(2 * a_ld z (a_fl z A)[k].2 + a % 2, 2 * a_ld z (a_fl z B)[k].2 + b % 2)] = P ++ (List.zipWith (fun q q2 : Int32 × Nat => (2 * a_ld z q.2 + a % 2, 2 * a_ld z q2.2 + b % 2)) (a_fl z A) (a_fl z B)).take (k + 1) := by
        rw [List.append_assoc, List.take_add_one, List.getElem?_zipWith, hqa, hqb]
        rfl
      rw [et] at g1
      rw [nI_1]
      refine xo_m (ih (k + 1) _ (by omega) (by omega) ⟨w1, w2, g1, w4⟩) (fun o2 c2 w => ⟨w.1, ?_⟩)
      have w5 : c2 + 2 * (LPr o + (Lk_up s).1 + (Lk_given s).1) ≤ 2 * LLk o2.2 := w.2
      have e5 : LLk s = LPr (Lk_pairs s) + (Lk_up s).1 + (Lk_given s).1 := rfl
      omega
theorem o_ljtail {n : Nat} (hn : 100000 ≤ n) {s1 : S_No} {z : AS} {st bd : Nat → Nat} {u lw : Nat} (hC : CN s1 z st bd u lw) (hw : a_wf z) {a b A B : Nat} (ha : a < 2 * a_t z) (hb0 : b < 2 * a_t z) (hA : al z A) (hB : al z B) (hl : (a_fl z A).length = (a_fl z B).length) {f : Nat → Nat} {gv : Nat → Bool} {P : List (Nat × Nat)} (hb : P.length + (a_fl z A).length < 1100) (y5 : Int32) {s : S_Lk} (hV : LV s z f gv P) : xo (xm_wr (Lk_up s) (if nI a < nI b then nI b else nI a) (if nI b < nI a then nI b else nI a) (fun a56 => (xm_b (L_Lk_join_98 (nI a) (nI b) (nI A) (nI B) y5 s1 n n (0 : Int32) ((Lk_pairs s), a56, (Lk_given s))) (fun o76 => (xm_p (((1 : Int32), (o76.2)) : Int32 × S_Lk)))))) (fun o c => o.1 = 1 ∧ LV o.2 z (fun i => if i = max a b then min a b else f i) gv (P ++ List.zipWith (fun q q2 => (2 * a_ld z q.2 + a % 2, 2 * a_ld z q2.2 + b % 2)) (a_fl z A) (a_fl z B)) ∧ c + 2 * LLk s ≤ 2 * LLk o.2) := by
  have ht := hC.2.2.2.2.2.2.2.2.2.2.2.2.2.2.1
  obtain ⟨v1, v2, v3, v4, v5⟩ := hV
  have b1 := v1.2.2
  rw [nI_max a b (by omega) (by omega), nI_min a b (by omega) (by omega)]
  refine xo_wr (max a b) rfl (by omega) (by omega) ?_
  have hV2 : LV (Lk_pairs s, ((Lk_up s).1, upd (Lk_up s).2 (max a b) (nI (min a b))), Lk_given s) z (fun i => if i = max a b then min a b else f i) gv (P ++ (List.zipWith (fun q q2 : Int32 × Nat => (2 * a_ld z q.2 + a % 2, 2 * a_ld z q2.2 + b % 2)) (a_fl z A) (a_fl z B)).take 0) := by
    rw [List.take_zero, List.append_nil]
    refine ⟨⟨v1.1, v1.2.1, v1.2.2⟩, v2, v3, fun i hi => ?_, v5⟩
    show upd (Lk_up s).2 (max a b) (nI (min a b)) i = nI (if i = max a b then min a b else f i)
    rw [upd_at]
    by_cases e : i = max a b
    · rw [if_pos e, if_pos e]
    · rw [if_neg e, if_neg e, v4 i hi]
  have hh := o_ljL (n := n) hC hw (a := a) (b := b) (by omega) (by omega) hA hB hl hb y5 n 0 _ (by omega) (Nat.zero_le _) hV2
  rw [← nI0] at hh
  refine xo_b _ hh (fun o c g => ?_)
  refine xo_p ⟨rfl, g.1, ?_⟩
  have : c + 2 * LLk s ≤ 2 * LLk o.2 := g.2
  show c + 0 + 2 * LLk s ≤ 2 * LLk o.2
  omega
theorem o_ljoin {n : Nat} (hn : 100000 ≤ n) {s1 : S_No} {z : AS} {st bd : Nat → Nat} {lw : Nat} {nd : Nat → Prop} (hC : CN s1 z st bd (a_sum z) lw) (hD : CD s1 z nd) (hw : a_wf z) {x y : Nat} {s : S_Lk} {f R : Nat → Nat} {gv : Nat → Bool} {P : List (Nat × Nat)} {k : Nat} (hV : LV s z f gv P) (hU : UF f R (2 * a_t z)) (T : LQ z nd bd x y R gv P k) {p : Nat × Nat} (hp : P[k]? = some p) : xo (m_Lk_join n s s1 (nI (R p.1)) (nI (R p.2))) (fun o c => c + 2 * LLk s ≤ 2 * LLk o.2 ∧ ((o.1 = 0 ∧ (¬ ∃ S, LKS z nd x y S) ∧ CLk o.2) ∨ (o.1 = 1 ∧ ∃ f2 R2 gv2 P2, LV o.2 z f2 gv2 P2 ∧ UF f2 R2 (2 * a_t z) ∧ LQ z nd bd x y R2 gv2 P2 (k + 1)))) := by
  have ht := hC.2.2.2.2.2.2.2.2.2.2.2.2.2.2.1
  have hu := hC.2.2.2.2.2.2.2.2.2.2.2.2.2.2.2
  have lk := hC.1.1.2.2
  have lb := hC.1.2.2.2.2.2.1.2.2
  have hbd := hC.2.2.2.2.2.2.2.2.2.1
  obtain ⟨pa1, pa2⟩ := T.p1 p (List.mem_of_getElem? hp)
  obtain ⟨a, ea⟩ : ∃ a, R p.1 = a := ⟨_, rfl⟩
  obtain ⟨b, eb⟩ : ∃ b, R p.2 = b := ⟨_, rfl⟩
  have raa : R a = a := by rw [← ea]; exact (T.s2 _).2
  have rbb : R b = b := by rw [← eb]; exact (T.s2 _).2
  have ca : cod z a := by rw [← ea]; exact T.s3 _ pa1
  have cb : cod z b := by rw [← eb]; exact T.s3 _ pa2
  have hla := cod_lt hw ca
  have hlb := cod_lt hw cb
  obtain ⟨A1, A2, A3⟩ := hbd (a / 2) ca.1 ca.2
  obtain ⟨B1, B2, B3⟩ := hbd (b / 2) cb.1 cb.2
  have bA : a_bd z (a / 2) (bd (a / 2)) := ⟨A1, by rw [A2, ca.2], by rw [ca.2]; exact A3⟩
  have bB : a_bd z (b / 2) (bd (b / 2)) := ⟨B1, by rw [B2, cb.2], by rw [cb.2]; exact B3⟩
  have hAl := al_lt hw A1
  have hBl := al_lt hw B1
  have Sab : ∀ S, LKS z nd x y S → S a b := fun S hS => by
    obtain ⟨h1, h2⟩ := T.s1 S hS
    have e1 := h1 p.1 a (by rw [ea, raa])
    have e2 := h1 p.2 b (by rw [eb, rbb])
    exact hS.1.2.2 _ _ _ (hS.1.2.1 _ _ e1) (hS.1.2.2 _ _ _ (h2 p (List.mem_of_getElem? hp)) e2)
  rw [ea, eb]
  unfold m_Lk_join
  refine xo_eq a b rfl rfl (by omega) (by omega) (fun e => ?_) (fun hab => ?_)
  · exact xo_p ⟨by show 0 + 2 * LLk s ≤ 2 * LLk s; omega, Or.inr ⟨rfl, f, R, gv, P, hV, hU, LQ_skip T hp (by rw [ea, eb, e])⟩⟩
  · rw [nI_half (by omega), nI_half (by omega)]
    refine xo_rd (a / 2) rfl (by omega) (by omega) ?_
    rw [(hC.2.2.2.2.2.2.2.2.1 (a / 2) (by omega)).1]
    refine xo_rd (b / 2) rfl (by omega) (by omega) ?_
    rw [(hC.2.2.2.2.2.2.2.2.1 (b / 2) (by omega)).1]
    refine xo_b _ (o_shape hn hC hw A1 B1) (fun o c g => ?_)
    obtain ⟨rfl, g⟩ := g
    rcases g with ⟨rfl, hsh⟩ | ⟨rfl, hsh⟩
    · rw [if_neg (by decide)]
      have hlen := a_sh_len hsh
      have hcb := T.c
      have hle : (a_fl z (bd (a / 2))).length ≤ sumf (fun r => if pb (cod z r ∧ R r = r) then (a_fl z (bd (r / 2))).length else 0) (2 * a_t z) := by
        have h1 := sumf_mono (f := fun r => if pb (cod z r ∧ R r = r) then (a_fl z (bd (r / 2))).length else 0) (show a + 1 ≤ 2 * a_t z from hla)
        rw [sumf_s] at h1
        have h2 : (if pb (cod z a ∧ R a = a) = true then (a_fl z (bd (a / 2))).length else 0) = (a_fl z (bd (a / 2))).length := by rw [pb_t ⟨ca, raa⟩]; rfl
        have h3 : sumf (fun r => if pb (cod z r ∧ R r = r) then (a_fl z (bd (r / 2))).length else 0) a + (if pb (cod z a ∧ R a = a) = true then (a_fl z (bd (a / 2))).length else 0) ≤ sumf (fun r => if pb (cod z r ∧ R r = r) then (a_fl z (bd (r / 2))).length else 0) (2 * a_t z) := h1
        omega
      have hfew : P.length + (a_fl z (bd (a / 2))).length < 1100 := by omega
      refine xo_rd (bd (a / 2)) rfl (by omega) (by omega) ?_
      rw [hC.2.2.2.1 _ hAl]
      have given : a_kd z (bd (a / 2)) = 0 ∨ a_kd z (bd (a / 2)) = 4 → xo (xm_b (m_Lk_give n s s1 (nI a) (nI b)) (fun o50 => (if (o50.1) = 0 then (xm_p ((0 : Int32), (o50.2))) else (xm_wr (Lk_up (o50.2)) (if nI a < nI b then nI b else nI a) (if nI b < nI a then nI b else nI a) (fun a56 => (xm_b (L_Lk_join_98 (nI a) (nI b) (nI (bd (a / 2))) (nI (bd (b / 2))) (a_kd z (bd (a / 2))) s1 n n (0 : Int32) ((Lk_pairs (o50.2)), a56, (Lk_given (o50.2)))) (fun o76 => (xm_p ((1 : Int32), (o76.2)))))))))) (fun o c => 0 + c + 2 * LLk s ≤ 2 * LLk o.2 ∧ ((o.1 = 0 ∧ (¬ ∃ S, LKS z nd x y S) ∧ CLk o.2) ∨ (o.1 = 1 ∧ ∃ f2 R2 gv2 P2, LV o.2 z f2 gv2 P2 ∧ UF f2 R2 (2 * a_t z) ∧ LQ z nd bd x y R2 gv2 P2 (k + 1)))) := fun h04 => by
        refine xo_b _ (o_give (n := n) hC hD hw hV ca cb) (fun o c g => ?_)
        obtain ⟨rfl, g⟩ := g
        rcases g with ⟨e1, e2, g⟩ | ⟨e1, g, e2, gv2, g1, g2⟩
        · rw [e1, if_pos rfl, e2]
          refine xo_p ⟨by show 0 + (0 + 0) + 2 * LLk s ≤ 2 * LLk s; omega, Or.inl ⟨rfl, fun ⟨S, hS⟩ => g ?_, LV_CLk hV⟩⟩
          obtain ⟨k1, k2, k3⟩ := (hS.2.2 a b ca cb (Sab S hS) _ _ bA bB).2.2 h04 hab
          obtain ⟨h1, h2⟩ := T.s1 S hS
          refine ⟨k1, k2, ?_, ?_⟩
          · cases hga : gv a with
            | false => rfl
            | true =>
              obtain ⟨w, w1, w2, w3⟩ := (T.h a _ ca bA h04).mp hga
              rcases k3 w w1 (h1 a w w3.symm) with q | q
              · exact absurd q w2
              · rw [q, rbb, raa] at w3
                exact absurd w3.symm hab
          · cases hgb : gv b with
            | false => rfl
            | true =>
              obtain ⟨w, w1, w2, w3⟩ := (T.h b _ cb bB (by rw [← hsh.1]; exact h04)).mp hgb
              rcases k3 w w1 (hS.1.2.2 _ _ _ (Sab S hS) (h1 b w w3.symm)) with q | q
              · rw [q, rbb, raa] at w3
                exact absurd w3 hab
              · exact absurd q w2
        · rw [e1, if_neg (by decide)]
          refine xo_m (o_ljtail hn hC hw hla hlb A1 B1 hlen hfew _ g2) (fun o2 c2 w => ?_)
          refine ⟨by have := w.2.2; omega, Or.inr ⟨w.1, _, _, gv2, _, w.2.1, jR_uf hU hla hlb raa rbb hab, LQ_join hw hbd T hp ea eb hab hsh (fun _ => g) (fun i => ?_) rfl⟩⟩
          rw [g1 i]
          exact ⟨fun q => q.imp id (fun q => ⟨h04, q⟩), fun q => q.imp id (fun q => q.2)⟩
      refine xo_if (fun e0 => ?_) (fun e0 => ?_)
      · exact given (Or.inl e0)
      · refine xo_if (fun e4 => ?_) (fun e4 => ?_)
        · exact given (Or.inr e4)
        · have no : ¬ (a_kd z (bd (a / 2)) = 0 ∨ a_kd z (bd (a / 2)) = 4) := fun q => q.elim e0 e4
          refine xo_m (o_ljtail hn hC hw hla hlb A1 B1 hlen hfew _ hV) (fun o2 c2 w => ?_)
          exact ⟨by have := w.2.2; omega, Or.inr ⟨w.1, _, _, gv, _, w.2.1, jR_uf hU hla hlb raa rbb hab, LQ_join hw hbd T hp ea eb hab hsh (fun q => absurd q no) (fun i => ⟨Or.inl, fun q => q.elim id (fun q => absurd q.1 no)⟩) rfl⟩⟩
    · rw [if_pos rfl]
      exact xo_p ⟨by show 0 + 0 + 2 * LLk s ≤ 2 * LLk s; omega, Or.inl ⟨rfl, fun ⟨S, hS⟩ => hsh (hS.2.2 a b ca cb (Sab S hS) _ _ bA bB).1, LV_CLk hV⟩⟩
theorem o_alikeL {n : Nat} (hn : 100000 ≤ n) {s1 : S_No} {z : AS} {st bd : Nat → Nat} {lw : Nat} {nd : Nat → Prop} (hC : CN s1 z st bd (a_sum z) lw) (hD : CD s1 z nd) (hw : a_wf z) {x y : Nat} (y1 y2 : Int32) : ∀ (fuel k : Nat) (s : S_Lk) (f R : Nat → Nat) (gv : Nat → Bool) (P : List (Nat × Nat)), 1100 - k < fuel → k ≤ 1100 → LV s z f gv P → UF f R (2 * a_t z) → LQ z nd bd x y R gv P k → xo (L_Lk_alike_37 y1 y2 s1 n fuel (nI k) s) (fun o c => (∃ e s2, o = .inl (e, s2) ∧ c + 2 * LLk s ≤ 2 * LLk s2 ∧ (∃ S, LKS z nd x y S) ∧ CLk s2) ∨ (∃ s2, o = .inr (0, s2) ∧ c + 2 * LLk s ≤ 2 * LLk s2 ∧ (¬ ∃ S, LKS z nd x y S) ∧ CLk s2)) := by
  have ht := hC.2.2.2.2.2.2.2.2.2.2.2.2.2.2.1
  have hu := hC.2.2.2.2.2.2.2.2.2.2.2.2.2.2.2
  have h131 : (131073 : Int32) = nI 131073 := by decide +kernel
  intro fuel
  induction fuel with
  | zero => intro k s f R gv P h; omega
  | succ fuel ih =>
    intro k s f R gv P h1 hk0 hV hU T
    have hV0 := hV
    obtain ⟨v1, v2, ⟨w1, w2, w3, w4, w5⟩, v4, v5⟩ := hV
    rw [L_Lk_alike_37_s]
    refine xo_le 131073 k h131 rfl (by omega) (by omega) (fun q => absurd q (by omega)) (fun _ => ?_)
    refine xo_le P.length k w3 rfl (by omega) (by omega) (fun hk => ?_) (fun hk => ?_)
    · exact xo_p (Or.inl ⟨_, s, rfl, by omega, LQ_done T hk, LV_CLk hV0⟩)
    · have hp : P[k]? = some P[k] := List.getElem?_eq_getElem (by omega)
      generalize P[k]'(by omega) = p at hp
      obtain ⟨pa1, pa2⟩ := T.p1 p (List.mem_of_getElem? hp)
      have l1 := cod_lt hw pa1
      have l2 := cod_lt hw pa2
      have b1 := w1.2.2
      have b2 := w2.2.2
      refine xo_rd k rfl (by omega) (by omega) ?_
      rw [(w5 k p hp).1]
      refine xo_b _ (o_root (n := n) hn (by omega) l1 v1.2.2 hU v4) (fun o1 c1 g1 => ?_)
      obtain ⟨rfl, e1, e2, f1, u1, u2⟩ := g1
      refine xo_rd k rfl (by omega) (by omega) ?_
      rw [(w5 k p hp).2]
      refine xo_b _ (o_root (n := n) (r := o1.2) hn (by omega) l2 (by rw [e2]; exact v1.2.2) u1 u2) (fun o2 c2 g2 => ?_)
      obtain ⟨rfl, e3, e4, f2, u3, u4⟩ := g2
      rw [e1, e3]
      have hV2 : LV (Lk_pairs s, o2.2, Lk_given s) z f2 gv P := ⟨⟨by rw [e4, e2]; exact v1.1, by rw [e4, e2]; exact v1.2.1, by rw [e4, e2]; exact v1.2.2⟩, v2, ⟨w1, w2, w3, w4, w5⟩, u4, v5⟩
      have hL2 : LLk (Lk_pairs s, o2.2, Lk_given s) = LLk s := by
        show (Pr_lefts (Lk_pairs s)).1 + (Pr_rights (Lk_pairs s)).1 + o2.2.1 + (Lk_given s).1 = _
        rw [e4, e2]
        rfl
      refine xo_b _ (o_ljoin hn hC hD hw hV2 u3 T hp) (fun o3 c3 g3 => ?_)
      obtain ⟨g4, g3⟩ := g3
      rw [hL2] at g4
      rcases g3 with ⟨e5, g5, g6⟩ | ⟨e5, f3, R3, gv3, P3, g5, g6, g7⟩
      · rw [e5, if_pos rfl]
        exact xo_p (Or.inr ⟨o3.2, rfl, by omega, g5, g6⟩)
      · rw [e5, if_neg (by decide), nI_1]
        refine xo_m (ih (k + 1) o3.2 f3 R3 gv3 P3 (by omega) (by omega) g5 g6 g7) (fun o c g => ?_)
        rcases g with ⟨e, s2, a1, a2, a3⟩ | ⟨s2, a1, a2, a3⟩
        · exact Or.inl ⟨e, s2, a1, by omega, a3⟩
        · exact Or.inr ⟨s2, a1, by omega, a3⟩
theorem o_alike {n : Nat} (hn : 100000 ≤ n) {s1 : S_No} {z : AS} {st bd : Nat → Nat} {lw : Nat} {nd : Nat → Prop} (hC : CN s1 z st bd (a_sum z) lw) (hD : CD s1 z nd) (hw : a_wf z) {x y : Nat} (hx : al z x) (hy : al z y) {s : S_Lk} (hS : CLk s) : xo (m_Lk_alike n s s1 (nI x) (nI y)) (fun o c => c + 2 * LLk s ≤ 2 * LLk o.2 ∧ CLk o.2 ∧ ((o.1 = 0 ∧ ¬ ∃ S, LKS z nd x y S) ∨ (o.1 = 1 ∧ ∃ S, LKS z nd x y S))) := by
  have ht := hC.2.2.2.2.2.2.2.2.2.2.2.2.2.2.1
  obtain ⟨s1a, s1b, s1c, s1d⟩ := hS
  have hT := hC.2.2.1.1
  have l5 := hC.1.2.2.2.2.1.2.2
  have hxl := al_lt hw hx
  have hyl := al_lt hw hy
  unfold m_Lk_alike
  refine xo_b (fun (o : S_Lk) c => Lk_pairs o = Lk_pairs s ∧ ArOk (Lk_up o) (2 * a_t z) ∧ ArOk (Lk_given o) (2 * a_t z) ∧ (∀ j, j < 2 * a_t z → (Lk_up o).2 j = nI j ∧ (Lk_given o).2 j = 0) ∧ c + 2 * ((Lk_up s).1 + (Lk_given s).1) ≤ 2 * ((Lk_up o).1 + (Lk_given o).1)) ?_ (fun o1 c1 g1 => ?_)
  · unfold m_Lk_standApart
    rw [hT, nI_dbl]
    refine xo_b _ (o_roomK s1c (m := 2 * a_t z) (by omega)) (fun a1 d1 k1 => ?_)
    refine xo_b _ (o_roomK s1d (m := 2 * a_t z) (by omega)) (fun a2 d2 k2 => ?_)
    obtain ⟨p1, q1, r1, t1⟩ := k1
    obtain ⟨p2, q2, r2, t2⟩ := k2
    have hh := o_apartL (n := n) (T := 2 * a_t z) (s1 := s1) (by omega) n 0 (Lk_pairs s, a1, a2) (by omega) (Nat.zero_le _) p1.2.2 p2.2.2 (fun j hj => by omega)
    rw [← nI0] at hh
    refine xo_b _ hh (fun o c g => ?_)
    obtain ⟨rfl, e1, e2, e3, e4⟩ := g
    have e2' : (Lk_up o.2).1 = a1.1 := e2
    have e3' : (Lk_given o.2).1 = a2.1 := e3
    refine xo_p ⟨e1, ⟨by rw [e2']; exact p1.1, by rw [e2']; exact p1.2.1, by rw [e2']; exact p1.2.2⟩, ⟨by rw [e3']; exact p2.1, by rw [e3']; exact p2.2.1, by rw [e3']; exact p2.2.2⟩, e4, ?_⟩
    rw [e2', e3']
    omega
  · obtain ⟨e1, o1u, o1g, o1v, o1c⟩ := g1
    refine xo_rd x rfl (by omega) (by omega) ?_
    rw [hC.2.2.2.2.2.2.2.1 x hxl]
    refine xo_rd y rfl (by omega) (by omega) ?_
    rw [hC.2.2.2.2.2.2.2.1 y hyl, nI_dbl, nI_dbl, nI_1, e1]
    refine xo_b (fun o c => CPr o [(2 * a_ld z x, 2 * a_ld z y + 1)] ∧ c + 2 * LPr (Lk_pairs s) ≤ 2 * LPr o) ?_ (fun o2' c2 g2 => ?_)
    · unfold m_Pr_startWith
      have h0 : CPr (Pr_lefts (Lk_pairs s), Pr_rights (Lk_pairs s), 0) [] := ⟨s1a, s1b, nI0, Nat.zero_le _, fun k p hp => absurd hp (by simp)⟩
      refine xo_b _ (o_pappend (n := n) (u := 2 * a_ld z x) (v := 2 * a_ld z y + 1) h0 (by show 0 < 1100; omega)) (fun o c g => ?_)
      refine xo_p ⟨g.1, ?_⟩
      have : c + 2 * LPr (Lk_pairs s) ≤ 2 * LPr o := g.2
      omega
    · obtain ⟨g2, g3⟩ := g2
      have hV : LV (o2', Lk_up o1, Lk_given o1) z (fun i => i) (fun _ => false) [(2 * a_ld z x, 2 * a_ld z y + 1)] := ⟨o1u, o1g, g2, fun i hi => (o1v i hi).1, fun i hi => (o1v i hi).2⟩
      have hU : UF (fun i => i) (fun i => i) (2 * a_t z) := fun i hi => ⟨Nat.le_refl _, rfl, fun _ => rfl⟩
      have hT0 := LQ_0 hw (nd := nd) hx hy hC.2.2.2.2.2.2.2.2.2.1
      have hh := o_alikeL (n := n) hn hC hD hw (x := x) (y := y) (nI x) (nI y) n 0 _ _ _ _ _ (by omega) (by omega) hV hU hT0
      rw [← nI0] at hh
      have eL : LLk (o2', Lk_up o1, Lk_given o1) = LPr o2' + (Lk_up o1).1 + (Lk_given o1).1 := rfl
      have eL2 : LLk s = LPr (Lk_pairs s) + (Lk_up s).1 + (Lk_given s).1 := rfl
      refine xo_b _ hh (fun o3' c3 g4 => ?_)
      rcases g4 with ⟨e, s2, rfl, a2, a3, a4⟩ | ⟨s2, rfl, a2, a3, a4⟩
      · refine xo_elim (fun aa haa => ?_) (fun bb hbb => absurd hbb (by simp))
        cases haa
        refine xo_p ⟨?_, a4, Or.inr ⟨rfl, a3⟩⟩
        show c1 + (c2 + (c3 + 0)) + 2 * LLk s ≤ 2 * LLk s2
        omega
      · refine xo_elim (fun aa haa => absurd haa (by simp)) (fun bb hbb => ?_)
        cases hbb
        refine xo_p ⟨?_, a4, Or.inl ⟨rfl, a3⟩⟩
        show c1 + (c2 + (c3 + 0)) + 2 * LLk s ≤ 2 * LLk s2
        omega
theorem c_like {n : Nat} (hn : 100000 ≤ n) {s : S_Ts} {F : FS} {c : Nat} (hC : CT s F) (hF : FI F c) {p v : Int32} : xoC (m_Ts_like n s p v) s (fun r F' => spi_like F p v r ∧ F' = F) := by
  have hC0 := hC
  obtain ⟨⟨st, bd, lw, h1⟩, h2, h3, h4, h5, h6, h7⟩ := hC
  have hw := hF.1
  have hb0 := hF.2.2.2.2.1
  unfold m_Ts_like
  rcases o_has (n := n) h1 hw p with ⟨x, hx, e⟩ | ⟨hx, e⟩
  · rw [e, xm_b_p, if_neg (by decide)]
    rcases o_has (n := n) h1 hw v with ⟨y, hy, e2⟩ | ⟨hy, e2⟩
    · rw [e2, xm_b_p, if_neg (by decide), hx.1, hy.1]
      refine xo_b _ (o_alike hn h1 h3 hw hx.2 hy.2 h7) (fun o1 d1 g => ?_)
      obtain ⟨k1, k2, k3⟩ := g
      have fin : ∀ r : Int32, spi_like F (nI x) (nI y) r → xo (xm_p ((r, (Ts_nodes s, Ts_pushed s, Ts_trial s, o1.2, Ts_touchedLeaders s)) : Int32 × S_Ts)) (fun o c => ∃ F', (spi_like F (nI x) (nI y) o.1 ∧ F' = F) ∧ CT o.2 F' ∧ d1 + c + 2 * LTs s ≤ 2 * LTs o.2) := fun r hr => by
        refine xo_p ⟨F, ⟨hr, rfl⟩, ⟨⟨st, bd, lw, h1⟩, h2, h3, h4, h5, h6, k2⟩, ?_⟩
        show d1 + 0 + 2 * LTs s ≤ 2 * (LNo (Ts_nodes s) + LPu (Ts_pushed s) + LTr (Ts_trial s) + LLk o1.2 + (Ld_row (Ts_touchedLeaders s)).1)
        unfold LTs
        omega
      rcases k3 with ⟨e3, k3⟩ | ⟨e3, k3⟩
      · rw [e3, if_pos rfl]
        refine fin 0 (Or.inr ⟨fun ⟨x', y', w1, w2, w3⟩ => ?_, rfl⟩)
        have q1 := a_is_inj hw (by omega) w1 ⟨rfl, hx.2⟩
        have q2 := a_is_inj hw (by omega) w2 ⟨rfl, hy.2⟩
        subst q1; subst q2
        exact k3 w3
      · rw [e3, if_neg (by decide)]
        exact fin 1 (Or.inl ⟨x, y, ⟨rfl, hx.2⟩, ⟨rfl, hy.2⟩, k3, rfl⟩)
    · rw [e2, xm_b_p, if_pos rfl]
      exact o_same hC0 ⟨Or.inr ⟨fun ⟨x', y', w1, w2, w3⟩ => hy y' w2, rfl⟩, rfl⟩
  · rw [e, xm_b_p, if_pos rfl]
    exact o_same hC0 ⟨Or.inr ⟨fun ⟨x', y', w1, w2, w3⟩ => hx x' w1, rfl⟩, rfl⟩
