/-! the reference cuts what it reaches into blocks -/
abbrev Md_set_BN (m : S_Md) (bl nb : Ar) : S_Md := (Md_kinds m, Md_values m, Md_firsts m, Md_manies m, Md_said m, Md_marked m, Md_leaders m, Md_trial m, Md_shown m, Md_end m, Md_nodes m, Md_features m, Md_parts m, Md_fields m, Md_pushedFeatures m, Md_pushedParts m, Md_pushed m, Md_touched m, Md_touches m, Md_reached m, bl, nb, Md_places m, Md_written m, Md_other m, Md_length m)
def RK (s : S_Md) (R : List Nat) (B : Nat → Nat) : Prop := (∀ k r, R[k]? = some r → (Md_reached s).2 k = nI r) ∧ (∀ k r, R[k]? = some r → (Md_blocks s).2 k = nI (B r)) ∧ (∀ r ∈ R, r < 32768 ∧ B r < 32768) ∧ R.length ≤ 512
theorem r_placeOfL {n : Nat} {s : S_Md} {R : List Nat} {B : Nat → Nat} (hL : RL s) (hK : RK s R B) {r k0 : Nat} (hr : R[k0]? = some r) (y2 : Int32) : ∀ (fuel k : Nat), k0 - k < fuel → k ≤ k0 → xo (L_Md_placeOf_2 (nI r) y2 s n fuel (nI k)) (fun o c => c = 0 ∧ ∃ j, o = nI j ∧ R[j]? = some r) := by
  have l9 : (Md_reached s).1 = 32768 := hL.2.2.1.2.1
  obtain ⟨h1, h2, h3, h4⟩ := hK
  have hk0 := (List.getElem?_eq_some_iff.mp hr).1
  have hrl := (h3 r (List.mem_of_getElem? hr)).1
  intro fuel
  induction fuel with
  | zero => intro k h; omega
  | succ fuel ih =>
    intro k g1 g2
    rw [L_Md_placeOf_2_s]
    refine xo_rd k rfl (by omega) (by omega) ?_
    have hk : R[k]? = some (R[k]'(by omega)) := List.getElem?_eq_getElem (by omega)
    generalize R[k]'(by omega) = r2 at hk
    have hr2 := (h3 r2 (List.mem_of_getElem? hk)).1
    rw [h1 k r2 hk]
    refine xo_eq r2 r rfl rfl (by omega) (by omega) (fun e => ?_) (fun e => ?_)
    · exact xo_p ⟨rfl, k, rfl, by rw [hk, e]⟩
    · rw [nI_1]
      have : k ≠ k0 := fun w => by
        rw [w, hr] at hk
        exact e (Option.some.inj hk).symm
      exact ih (k + 1) (by omega) (by omega)
theorem r_placeOf {n : Nat} (hn : 100000 ≤ n) {s : S_Md} {R : List Nat} {B : Nat → Nat} (hL : RL s) (hK : RK s R B) {r : Nat} (hr : r ∈ R) (y2 : Int32) : xo (m_Md_placeOf n s (nI r) y2) (fun o c => c = 0 ∧ ∃ j, o = nI j ∧ R[j]? = some r ∧ j < 32768 ∧ (Md_blocks s).2 j = nI (B r)) := by
  obtain ⟨k0, hk0⟩ := List.getElem?_of_mem hr
  have hl := (List.getElem?_eq_some_iff.mp hk0).1
  have h4 := hK.2.2.2
  unfold m_Md_placeOf
  have hh := r_placeOfL (n := n) hL hK hk0 y2 n 0 (by omega) (Nat.zero_le _)
  rw [← nI0] at hh
  refine xo_b _ hh (fun o c g => ?_)
  obtain ⟨rfl, j, rfl, g⟩ := g
  have hj := (List.getElem?_eq_some_iff.mp g).1
  exact xo_p ⟨rfl, j, rfl, g, by omega, hK.2.1 j r g⟩
def lkr (z : AS) (B : Nat → Nat) (r s : Nat) : Prop := r = s ∨ (B r = B s ∧ ∀ b c, a_bd z r b → a_bd z s c → a_kd z b ≠ 0 ∧ a_kd z b ≠ 4 ∧ a_sh z b c ∧ ∀ (k : Nat) (q q2 : Int32 × Nat), (a_fl z b)[k]? = some q → (a_fl z c)[k]? = some q2 → B (a_ld z q.2) = B (a_ld z q2.2))
theorem lkr_symm {z : AS} (hw : a_wf z) {B : Nat → Nat} {r s : Nat} (hr : al z r) (hs : al z s) (h : lkr z B r s) : lkr z B s r := by
  rcases h with h | ⟨h1, h2⟩
  · exact Or.inl h.symm
  · refine Or.inr ⟨h1.symm, fun b c hb hc => ?_⟩
    obtain ⟨g1, g2, g3, g4⟩ := h2 c b hc hb
    exact ⟨by rw [← g3.1]; exact g1, by rw [← g3.1]; exact g2, a_sh_symm g3, fun k q q2 hq hq2 => (g4 k q2 q hq2 hq).symm⟩
theorem lkr_trans {z : AS} (hw : a_wf z) {B : Nat → Nat} {r s t : Nat} (hs : al z s) (h : lkr z B r s) (h' : lkr z B s t) : lkr z B r t := by
  rcases h with rfl | ⟨h1, h2⟩
  · exact h'
  · rcases h' with rfl | ⟨k1, k2⟩
    · exact Or.inr ⟨h1, h2⟩
    · refine Or.inr ⟨h1.trans k1, fun b d hb hd => ?_⟩
      have hc := a_body_spec hs
      obtain ⟨g1, g2, g3, g4⟩ := h2 b _ hb hc
      obtain ⟨l1, l2, l3, l4⟩ := k2 _ d hc hd
      refine ⟨g1, g2, a_sh_trans g3 l3, fun k q q2 hq hq2 => ?_⟩
      obtain ⟨q3, e, -⟩ := a_sh_at g3 hq
      exact (g4 k q q3 hq e).trans (l4 k q3 q2 e hq2)
theorem r_likeL {n : Nat} (hn : 100000 ≤ n) {s : S_Md} {z : AS} {st : Nat → Nat} {R : List Nat} {B : Nat → Nat} (hL : RL s) (hZ : RZ s z st) (hw : a_wf z) (ht : a_t z ≤ 512) (hs : a_sum z ≤ 512) (hK : RK s R B) {b c : Nat} (hb : al z b) (hc : al z c) (hl : (a_fl z b).length = (a_fl z c).length) (h3 : a_kd z b = 3 ∨ a_fl z b = []) (hRb : ∀ q ∈ a_fl z b, a_ld z q.2 ∈ R) (hRc : ∀ q ∈ a_fl z c, a_ld z q.2 ∈ R) (y1 y2 y3 : Int32) : ∀ (fuel k : Nat) (v : Int32), (a_fl z b).length - k < fuel → k ≤ (a_fl z b).length → ((v = 1 ∧ ∀ (j : Nat) (q q2 : Int32 × Nat), j < k → (a_fl z b)[j]? = some q → (a_fl z c)[j]? = some q2 → B (a_ld z q.2) = B (a_ld z q2.2)) ∨ (v = 0 ∧ ∃ (j : Nat) (q q2 : Int32 × Nat), (a_fl z b)[j]? = some q ∧ (a_fl z c)[j]? = some q2 ∧ B (a_ld z q.2) ≠ B (a_ld z q2.2))) → xo (L_Md_isLike_86 y1 y2 y3 (nI b) (nI c) s n fuel v (nI k)) (fun o d => d = 0 ∧ ((o.1 = 1 ∧ ∀ (j : Nat) (q q2 : Int32 × Nat), (a_fl z b)[j]? = some q → (a_fl z c)[j]? = some q2 → B (a_ld z q.2) = B (a_ld z q2.2)) ∨ (o.1 = 0 ∧ ∃ (j : Nat) (q q2 : Int32 × Nat), (a_fl z b)[j]? = some q ∧ (a_fl z c)[j]? = some q2 ∧ B (a_ld z q.2) ≠ B (a_ld z q2.2)))) := by
  obtain ⟨l1, l2, l3, l4, l5, l6, l7, l8⟩ := r_lens hL
  have l10 : (Md_blocks s).1 = 32768 := hL.2.2.1.2.2.1
  have hbl := al_lt hw hb
  have hcl := al_lt hw hc
  have h6b := hZ.2.2.2.2.2.2.1 b hb
  have h6c := hZ.2.2.2.2.2.2.1 c hc
  intro fuel
  induction fuel with
  | zero => intro k v h; omega
  | succ fuel ih =>
    intro k v h1 h2 hv
    have done : (k = (a_fl z b).length ∨ v = 0) → xo (xm_p ((v, nI k) : Int32 × Int32)) (fun o d => d = 0 ∧ ((o.1 = 1 ∧ ∀ (j : Nat) (q q2 : Int32 × Nat), (a_fl z b)[j]? = some q → (a_fl z c)[j]? = some q2 → B (a_ld z q.2) = B (a_ld z q2.2)) ∨ (o.1 = 0 ∧ ∃ (j : Nat) (q q2 : Int32 × Nat), (a_fl z b)[j]? = some q ∧ (a_fl z c)[j]? = some q2 ∧ B (a_ld z q.2) ≠ B (a_ld z q2.2)))) := fun w => by
      refine xo_p ⟨rfl, ?_⟩
      rcases hv with ⟨v1, v2⟩ | ⟨v1, v2⟩
      · refine Or.inl ⟨v1, fun j q q2 hq hq2 => v2 j q q2 ?_ hq hq2⟩
        have := (List.getElem?_eq_some_iff.mp hq).1
        rcases w with w | w
        · omega
        · rw [v1] at w; exact absurd w (by decide)
      · exact Or.inr ⟨v1, v2⟩
    rw [L_Md_isLike_86_s]
    refine xo_rd b rfl (by omega) (by omega) ?_
    rw [hZ.2.2.2.1 b hb]
    refine xo_le _ _ rfl rfl (by omega) (by omega) (fun q => done (Or.inl (by omega))) (fun q => ?_)
    refine xo_if (fun w => done (Or.inr w)) (fun w => ?_)
    refine xo_rd b rfl (by omega) (by omega) ?_
    rw [hZ.2.1 b (by omega)]
    have h33 : a_kd z b = 3 := by
      rcases h3 with w | w
      · exact w
      · rw [w] at q; exact absurd q (by simp)
    rw [if_pos h33]
    have hqb : (a_fl z b)[k]? = some (a_fl z b)[k] := List.getElem?_eq_getElem q
    have hqc : (a_fl z c)[k]? = some (a_fl z c)[k] := List.getElem?_eq_getElem (by omega)
    have qc : k < (a_fl z c).length := by omega
    generalize (a_fl z b)[k] = qb at hqb
    generalize (a_fl z c)[k] = qc' at hqc
    have mb := List.mem_of_getElem? hqb
    have mc := List.mem_of_getElem? hqc
    have alb := (hw.2.2.2.2.1 b hb).2.2 qb mb
    have alc := (hw.2.2.2.2.1 c hc).2.2 qc' mc
    have llb := al_lt hw alb
    have llc := al_lt hw alc
    refine xo_rd b rfl (by omega) (by omega) ?_
    rw [hZ.2.2.2.2.1 b hb (ne_of_lt q), nI_add]
    refine xo_rd _ rfl (by omega) (by omega) ?_
    rw [(hZ.2.2.2.2.2.2.2.1 b k hb qb hqb).2]
    refine xo_rd _ rfl (by omega) (by omega) ?_
    rw [hZ.2.2.2.2.2.1 _ alb]
    refine xo_b _ (r_placeOf (n := n) hn hL hK (hRb qb mb) y3) (fun o1 d1 g1 => ?_)
    obtain ⟨rfl, j1, rfl, -, j1l, j1b⟩ := g1
    refine xo_rd j1 rfl (by omega) (by omega) ?_
    rw [j1b]
    refine xo_rd c rfl (by omega) (by omega) ?_
    rw [hZ.2.2.2.2.1 c hc (ne_of_lt qc), nI_add]
    refine xo_rd _ rfl (by omega) (by omega) ?_
    rw [(hZ.2.2.2.2.2.2.2.1 c k hc qc' hqc).2]
    refine xo_rd _ rfl (by omega) (by omega) ?_
    rw [hZ.2.2.2.2.2.1 _ alc]
    refine xo_b _ (r_placeOf (n := n) hn hL hK (hRc qc' mc) y3) (fun o2 d2 g2 => ?_)
    obtain ⟨rfl, j2, rfl, -, j2l, j2b⟩ := g2
    refine xo_rd j2 rfl (by omega) (by omega) ?_
    rw [j2b]
    have b1 := (hK.2.2.1 _ (hRb qb mb)).2
    have b2 := (hK.2.2.1 _ (hRc qc' mc)).2
    refine xo_b (fun o d => d = 0 ∧ ((o = 1 ∧ B (a_ld z qb.2) = B (a_ld z qc'.2)) ∨ (o = 0 ∧ B (a_ld z qb.2) ≠ B (a_ld z qc'.2)))) (xo_eq _ _ rfl rfl (by omega) (by omega) (fun e => xo_p ⟨rfl, Or.inl ⟨rfl, e⟩⟩) (fun e => xo_p ⟨rfl, Or.inr ⟨rfl, e⟩⟩)) (fun o3 d3 g3 => ?_)
    obtain ⟨rfl, g3⟩ := g3
    rw [nI_1]
    refine xo_m (ih (k + 1) o3 (by omega) (by omega) ?_) (fun o d g => ⟨by omega, g.2⟩)
    rcases g3 with ⟨e1, e2⟩ | ⟨e1, e2⟩
    · rcases hv with ⟨v1, v2⟩ | ⟨v1, v2⟩
      · refine Or.inl ⟨e1, fun j q q2 hj hq hq2 => ?_⟩
        by_cases ej : j = k
        · subst ej
          rw [hqb] at hq
          rw [hqc] at hq2
          cases hq
          cases hq2
          exact e2
        · exact v2 j q q2 (by omega) hq hq2
      · exact absurd v1 w
    · exact Or.inr ⟨e1, k, qb, qc', hqb, hqc, e2⟩
theorem r_isLike {n : Nat} (hn : 100000 ≤ n) {s : S_Md} {z : AS} {st : Nat → Nat} {R : List Nat} {B : Nat → Nat} (hL : RL s) (hZ : RZ s z st) (hw : a_wf z) (ht : a_t z ≤ 512) (hs : a_sum z ≤ 512) (hK : RK s R B) (hD : R.Nodup) (hR : ∀ r ∈ R, al z r ∧ a_ld z r = r) (hRc : ∀ r b, r ∈ R → a_bd z r b → ∀ q ∈ a_fl z b, a_ld z q.2 ∈ R) {i j r t : Nat} (hi : R[i]? = some r) (hj : R[j]? = some t) (y : Int32) : xo (m_Md_isLike n s (nI i) (nI j) y) (fun o d => d = 0 ∧ ((o = 1 ∧ lkr z B r t) ∨ (o = 0 ∧ ¬ lkr z B r t))) := by
  obtain ⟨l1, l2, l3, l4, l5, l6, l7, l8⟩ := r_lens hL
  have l9 : (Md_reached s).1 = 32768 := hL.2.2.1.2.1
  have l10 : (Md_blocks s).1 = 32768 := hL.2.2.1.2.2.1
  have hK0 := hK
  obtain ⟨k1, k2, k3, k4⟩ := hK
  have hil := (List.getElem?_eq_some_iff.mp hi).1
  have hjl := (List.getElem?_eq_some_iff.mp hj).1
  have mr := List.mem_of_getElem? hi
  have mt := List.mem_of_getElem? hj
  have ar := hR r mr
  have at' := hR t mt
  have b1 := (k3 r mr).2
  have b2 := (k3 t mt).2
  unfold m_Md_isLike
  refine xo_rd i rfl (by omega) (by omega) ?_
  rw [k1 i r hi]
  refine xo_b _ (r_meant (n := n) hn hL hZ hw ht ar.1) (fun o1 d1 g1 => ?_)
  obtain ⟨rfl, b, hb, rfl⟩ := g1
  refine xo_rd j rfl (by omega) (by omega) ?_
  rw [k1 j t hj]
  refine xo_b _ (r_meant (n := n) hn hL hZ hw ht at'.1) (fun o2 d2 g2 => ?_)
  obtain ⟨rfl, c, hc, rfl⟩ := g2
  have hbl := al_lt hw hb.1
  refine xo_eq i j rfl rfl (by omega) (by omega) (fun e => ?_) (fun e => ?_)
  · subst e
    rw [hi] at hj
    exact xo_p ⟨rfl, Or.inl ⟨rfl, Or.inl (Option.some.inj hj)⟩⟩
  · have hne : r ≠ t := fun w => by
      subst w
      exact e ((List.getElem?_inj hil hD).mp (hi.trans hj.symm))
    have no : ¬ (B r = B t ∧ a_kd z b ≠ 0 ∧ a_kd z b ≠ 4 ∧ a_sh z b c ∧ ∀ (k : Nat) (q q2 : Int32 × Nat), (a_fl z b)[k]? = some q → (a_fl z c)[k]? = some q2 → B (a_ld z q.2) = B (a_ld z q2.2)) → ¬ lkr z B r t := fun w h => by
      rcases h with h | ⟨h1, h2⟩
      · exact hne h
      · exact w ⟨h1, h2 b c hb hc⟩
    refine xo_rd b rfl (by omega) (by omega) ?_
    rw [hZ.2.1 b (by omega)]
    refine xo_if (fun w => xo_p ⟨rfl, Or.inr ⟨rfl, no (fun q => q.2.1 w)⟩⟩) (fun w0 => ?_)
    refine xo_rd b rfl (by omega) (by omega) ?_
    rw [hZ.2.1 b (by omega)]
    refine xo_if (fun w => xo_p ⟨rfl, Or.inr ⟨rfl, no (fun q => q.2.2.1 w)⟩⟩) (fun w4 => ?_)
    refine xo_rd i rfl (by omega) (by omega) ?_
    rw [k2 i r hi]
    refine xo_rd j rfl (by omega) (by omega) ?_
    rw [k2 j t hj]
    refine xo_eq _ _ rfl rfl (by omega) (by omega) (fun eB => ?_) (fun eB => xo_p ⟨rfl, Or.inr ⟨rfl, no (fun q => eB q.1)⟩⟩)
    refine xo_b _ (r_go (n := n) hn hL hZ hw ht hs hb.1 hc.1) (fun o3 d3 g3 => ?_)
    obtain ⟨rfl, g3⟩ := g3
    rcases g3 with ⟨rfl, g⟩ | ⟨rfl, g⟩
    · rw [if_neg (by decide)]
      have hsh : a_sh z b c := ⟨g.1, g.2.1, g.2.2.1⟩
      have h3 : a_kd z b = 3 ∨ a_fl z b = [] := by
        rcases hw.2.1 b hb.1 with q | q | q | q | q
        · exact absurd q w0
        · exact Or.inr ((hw.2.2.2.2.1 b hb.1).1 (Or.inr (Or.inl q)))
        · exact Or.inr ((hw.2.2.2.2.1 b hb.1).1 (Or.inr (Or.inr q)))
        · exact Or.inl q
        · exact absurd q w4
      have hh := r_likeL (n := n) hn hL hZ hw ht hs hK0 hb.1 hc.1 (a_sh_len hsh) h3 (hRc r b mr hb) (hRc t c mt hc) (nI i) (nI j) y n 0 1 (by
        have h1 := sumf_mono (f := fun i => (a_fl z i).length) (show b + 1 ≤ a_t z from hbl)
        rw [sumf_s] at h1
        have h2 : sumf (fun i => (a_fl z i).length) b + (a_fl z b).length ≤ a_sum z := h1
        omega) (Nat.zero_le _) (Or.inl ⟨rfl, fun j q q2 hj => by omega⟩)
      rw [← nI0] at hh
      refine xo_b _ hh (fun o4 d4 g4 => ?_)
      obtain ⟨rfl, g4⟩ := g4
      rcases g4 with ⟨e1, g4⟩ | ⟨e1, j0, q, q2, a1, a2, a3⟩
      · rw [e1]
        refine xo_z (Or.inr rfl) (xo_p ⟨rfl, Or.inl ⟨rfl, Or.inr ⟨eB, fun b' c' hb' hc' => ?_⟩⟩⟩)
        obtain ⟨m1, m2⟩ := bd_same hw hb' hb
        obtain ⟨n1, n2⟩ := bd_same hw hc hc'
        refine ⟨by rw [m1.1]; exact w0, by rw [m1.1]; exact w4, a_sh_trans m1 (a_sh_trans hsh n1), fun k q q2 hq hq2 => ?_⟩
        obtain ⟨qb, x1, -⟩ := a_sh_at m1 hq
        obtain ⟨qc, x2, -⟩ := a_sh_at hsh x1
        rw [m2 k q qb hq x1, g4 k qb qc x1 x2, n2 k qc q2 x2 hq2]
      · rw [e1]
        exact xo_z (Or.inl rfl) (xo_p ⟨rfl, Or.inr ⟨rfl, no (fun q' => a3 (q'.2.2.2.2 j0 q q2 a1 a2))⟩⟩)
    · rw [if_pos rfl]
      exact xo_p ⟨rfl, Or.inr ⟨rfl, no (fun q => g ⟨q.2.2.2.1.1, q.2.2.2.1.2.1, q.2.2.2.1.2.2, fun w => absurd w w4⟩)⟩⟩
