/-! what is reached -/
theorem cnt_mem {t : Nat} : ∀ (R : List Nat), R.Nodup → (∀ r ∈ R, r < t) → cnt (fun i => decide (i ∈ R)) t = R.length := by
  intro R
  induction R with
  | nil =>
    intro _ _
    rw [cnt_congr (g := fun _ => false) (fun i _ => by simp), cnt_false]
    rfl
  | cons a R ih =>
    intro hn ht
    have hn2 := List.nodup_cons.mp hn
    rw [List.length_cons, ← ih hn2.2 (fun r hr => ht r (List.mem_cons_of_mem _ hr))]
    refine cnt_set (x := a) (ht a List.mem_cons_self) (by simp [hn2.1]) (by simp) (fun i hi => ?_)
    simp [hi]
theorem nodup_len {t : Nat} {R : List Nat} (h : R.Nodup) (ht : ∀ r ∈ R, r < t) : R.length ≤ t := by
  rw [← cnt_mem R h ht]
  exact cnt_le _ _
/-- y is reached from the node x -/
def a_rch (z : AS) (x y : Nat) : Prop := ∀ S : Nat → Prop, S (a_ld z x) → (∀ i b (q : Int32 × Nat), S i → a_bd z i b → q ∈ a_fl z b → S (a_ld z q.2)) → S y
theorem a_rch_0 {z : AS} {x : Nat} : a_rch z x (a_ld z x) := fun _ h _ => h
theorem a_rch_s {z : AS} {x i b : Nat} {q : Int32 × Nat} (h : a_rch z x i) (hb : a_bd z i b) (hq : q ∈ a_fl z b) : a_rch z x (a_ld z q.2) := fun S h0 h1 => h1 i b q (h S h0 h1) hb hq
theorem a_bd_mem {z : AS} (hw : a_wf z) {x b c : Nat} (h1 : a_bd z x b) (h2 : a_bd z x c) {q : Int32 × Nat} (hq : q ∈ a_fl z b) : ∃ q2 ∈ a_fl z c, a_ld z q2.2 = a_ld z q.2 := by
  obtain ⟨k, hk⟩ := List.getElem?_of_mem hq
  obtain ⟨q2, g1, g2, g3⟩ := a_fl_at hw h1 h2 hk
  exact ⟨q2, List.mem_of_getElem? g1, g3⟩
def RR (m : S_Md) (z : AS) (x : Nat) (s : S_Md) (R : List Nat) : Prop := (∃ g, s = Md_set_reached m (32768, g) ∧ ∀ k r, R[k]? = some r → g k = nI r) ∧ R.Nodup ∧ (∀ r ∈ R, al z r ∧ a_ld z r = r ∧ a_rch z x r) ∧ R[0]? = some (a_ld z x)
theorem RR_len {m s : S_Md} {z : AS} {x : Nat} {R : List Nat} (hw : a_wf z) (h : RR m z x s R) : R.length ≤ a_t z := nodup_len h.2.1 (fun r hr => al_lt hw (h.2.2.1 r hr).1)
theorem RR_L {m s : S_Md} {z : AS} {x : Nat} {R : List Nat} (h : RR m z x s R) (hL : RL m) : RL s := by
  obtain ⟨⟨g, rfl, -⟩, -⟩ := h
  exact ⟨hL.1, hL.2.1, ⟨hL.2.2.1.1, rfl, hL.2.2.1.2.2⟩, hL.2.2.2⟩
theorem RR_Z {m s : S_Md} {z : AS} {x : Nat} {R : List Nat} {st : Nat → Nat} (h : RR m z x s R) (hZ : RZ m z st) : RZ s z st := by
  obtain ⟨⟨g, rfl, -⟩, -⟩ := h
  exact hZ
theorem RR_at {m s : S_Md} {z : AS} {x : Nat} {R : List Nat} (h : RR m z x s R) {k r : Nat} (hk : R[k]? = some r) : (Md_reached s).2 k = nI r := by
  obtain ⟨⟨g, rfl, h1⟩, -⟩ := h
  exact h1 k r hk
theorem r_knownL {n : Nat} {s : S_Md} {R : List Nat} {v : Nat} (hl : (Md_reached s).1 = 32768) (hR : ∀ k r, R[k]? = some r → (Md_reached s).2 k = nI r ∧ r < 2 ^ 31) (hlen : R.length ≤ 32768) (hv : v < 2 ^ 31) (y1 y3 y4 y5 : Int32) : ∀ (fuel i : Nat) (b : Int32), R.length - i < fuel → i ≤ R.length → b = 0 ∨ b = 1 → xo (L_Md_reach_87 y1 (nI R.length) y3 y4 y5 (nI v) s n fuel b (nI i)) (fun o c => c = 0 ∧ ((o.1 = 1 ∧ (b = 1 ∨ ∃ k, i ≤ k ∧ R[k]? = some v)) ∨ (o.1 = 0 ∧ ¬ (b = 1 ∨ ∃ k, i ≤ k ∧ R[k]? = some v)))) := by
  intro fuel
  induction fuel with
  | zero => intro i b h; omega
  | succ fuel ih =>
    intro i b h1 h2 hb
    rw [L_Md_reach_87_s]
    refine xo_le _ _ rfl rfl (by omega) (by omega) (fun q => ?_) (fun q => ?_)
    · rcases hb with rfl | rfl
      · refine xo_p ⟨rfl, Or.inr ⟨rfl, fun w => ?_⟩⟩
        rcases w with w | ⟨k, w1, w2⟩
        · exact absurd w (by decide)
        · have := (List.getElem?_eq_some_iff.mp w2).1
          omega
      · exact xo_p ⟨rfl, Or.inl ⟨rfl, Or.inl rfl⟩⟩
    · rcases hb with rfl | rfl
      · rw [if_pos rfl]
        refine xo_rd i rfl (by omega) (by omega) ?_
        have hg : R[i]? = some R[i] := List.getElem?_eq_getElem q
        obtain ⟨e1, e2⟩ := hR i _ hg
        rw [e1]
        refine xo_b (fun w c => c = 0 ∧ ((w = 1 ∧ R[i] = v) ∨ (w = 0 ∧ R[i] ≠ v))) (xo_eq _ _ rfl rfl e2 hv (fun e => xo_p ⟨rfl, Or.inl ⟨rfl, e⟩⟩) (fun e => xo_p ⟨rfl, Or.inr ⟨rfl, e⟩⟩)) (fun w c gw => ?_)
        obtain ⟨rfl, gw⟩ := gw
        rw [nI_1]
        rcases gw with ⟨rfl, e⟩ | ⟨rfl, e⟩
        · refine xo_m (ih (i + 1) 1 (by omega) (by omega) (Or.inr rfl)) (fun o c g => ⟨by have := g.1; omega, ?_⟩)
          rcases g.2 with ⟨w, -⟩ | ⟨-, w⟩
          · exact Or.inl ⟨w, Or.inr ⟨i, Nat.le_refl _, by rw [hg, e]⟩⟩
          · exact absurd (Or.inl rfl) w
        · refine xo_m (ih (i + 1) 0 (by omega) (by omega) (Or.inl rfl)) (fun o c g => ⟨by have := g.1; omega, ?_⟩)
          rcases g.2 with ⟨w, h⟩ | ⟨w, h⟩
          · rcases h with h | ⟨k, k1, k2⟩
            · exact absurd h (by decide)
            · exact Or.inl ⟨w, Or.inr ⟨k, by omega, k2⟩⟩
          · refine Or.inr ⟨w, fun q2 => h (q2.elim (fun e => absurd e (by decide)) (fun ⟨k, k1, k2⟩ => Or.inr ⟨k, ?_, k2⟩))⟩
            by_cases e3 : k = i
            · subst e3; rw [hg] at k2; cases k2; exact absurd rfl e
            · omega
      · rw [if_neg (by decide)]
        exact xo_p ⟨rfl, Or.inl ⟨rfl, Or.inl rfl⟩⟩
theorem getElem?_mem_iff {R : List Nat} {v : Nat} : (∃ k, 0 ≤ k ∧ R[k]? = some v) ↔ v ∈ R := ⟨fun ⟨_, _, h⟩ => List.mem_of_getElem? h, fun h => (List.getElem?_of_mem h).elim (fun k h => ⟨k, Nat.zero_le _, h⟩)⟩
theorem getElem?_snoc {R : List Nat} {v k r : Nat} (h : (R ++ [v])[k]? = some r) : R[k]? = some r ∨ (k = R.length ∧ r = v) := by
  by_cases hk : k < R.length
  · rw [List.getElem?_append_left hk] at h
    exact Or.inl h
  · rw [List.getElem?_append_right (by omega)] at h
    by_cases e : k = R.length
    · subst e
      rw [Nat.sub_self] at h
      exact Or.inr ⟨rfl, (Option.some.inj h).symm⟩
    · have : ([v] : List Nat)[k - R.length]? = none := List.getElem?_eq_none (by simp; omega)
      rw [this] at h
      exact absurd h (by simp)
/-- the parts of one body are taken in -/
theorem r_reach1 {n : Nat} (hn : 100000 ≤ n) {m : S_Md} {z : AS} {st : Nat → Nat} (hL : RL m) (hZ : RZ m z st) (hw : a_wf z) (ht : a_t z ≤ 512) (hs : a_sum z ≤ 512) {x i b : Nat} (hi : a_rch z x i) (hb : a_bd z i b) (y1 y3 : Int32) : ∀ (fuel k : Nat) (s : S_Md) (R : List Nat), (a_fl z b).length - k < fuel → k ≤ (a_fl z b).length → RR m z x s R → (∀ (j : Nat) (q : Int32 × Nat), j < k → (a_fl z b)[j]? = some q → a_ld z q.2 ∈ R) → xo (L_Md_reach_36 y1 y3 (nI b) n fuel (nI R.length) (nI k) s) (fun o c => c = 0 ∧ ∃ R2, o.1 = nI R2.length ∧ RR m z x o.2.2 R2 ∧ (∃ E, R2 = R ++ E) ∧ ∀ q ∈ a_fl z b, a_ld z q.2 ∈ R2) := by
  have hbl := al_lt hw hb.1
  have h6 := hZ.2.2.2.2.2.2.1 b hb.1
  intro fuel
  induction fuel with
  | zero => intro k s R h; omega
  | succ fuel ih =>
    intro k s R h1 h2 hR hp
    have hLs := RR_L hR hL
    have hZs := RR_Z hR hZ
    have hlen := RR_len hw hR
    obtain ⟨l1, l2, l3, l4, l5, l6, l7, l8⟩ := r_lens hLs
    have l9 : (Md_reached s).1 = 32768 := hLs.2.2.1.2.1
    have done : (a_fl z b).length ≤ k → xo (xm_p ((nI R.length, nI k, s) : Int32 × Int32 × S_Md)) (fun o c => c = 0 ∧ ∃ R2, o.1 = nI R2.length ∧ RR m z x o.2.2 R2 ∧ (∃ E, R2 = R ++ E) ∧ ∀ q ∈ a_fl z b, a_ld z q.2 ∈ R2) := fun hk => by
      refine xo_p ⟨rfl, R, rfl, hR, ⟨[], (List.append_nil R).symm⟩, fun q hq => ?_⟩
      obtain ⟨j, hj⟩ := List.getElem?_of_mem hq
      have := (List.getElem?_eq_some_iff.mp hj).1
      exact hp j q (by omega) hj
    rw [L_Md_reach_36_s]
    refine xo_rd b rfl (by omega) (by omega) ?_
    rw [hZs.2.2.2.1 b hb.1]
    refine xo_le _ _ rfl rfl (by omega) (by omega) (fun q => done q) (fun q => ?_)
    refine xo_rd b rfl (by omega) (by omega) ?_
    rw [hZs.2.1 b (by omega)]
    refine xo_if (fun e => ?_) (fun e => ?_)
    · have := a_kd_3 hw hb.1 e
      rw [this] at q
      exact absurd q (by simp)
    · refine xo_rd b rfl (by omega) (by omega) ?_
      rw [hZs.2.2.2.2.1 b hb.1 (ne_of_lt q), nI_add]
      refine xo_rd _ rfl (by omega) (by omega) ?_
      have hq : (a_fl z b)[k]? = some (a_fl z b)[k] := List.getElem?_eq_getElem q
      generalize (a_fl z b)[k] = q2 at hq
      have hal := (hw.2.2.2.2.1 b hb.1).2.2 q2 (List.mem_of_getElem? hq)
      have hql := al_lt hw hal
      rw [(hZs.2.2.2.2.2.2.2.1 b k hb.1 q2 hq).2]
      refine xo_rd _ rfl (by omega) (by omega) ?_
      rw [hZs.2.2.2.2.2.1 _ hal]
      have hv := hw.2.2.1 _ hal
      have hvl := al_lt hw hv.2.1
      have hk := r_knownL (n := n) (s := s) (R := R) (v := a_ld z q2.2) l9 (fun k r hk => ⟨RR_at hR hk, by have := al_lt hw (hR.2.2.1 r (List.mem_of_getElem? hk)).1; omega⟩) (by omega) (by omega) y1 y3 (nI b) (nI k) n 0 0 (by omega) (Nat.zero_le _) (Or.inl rfl)
      rw [← nI0] at hk
      refine xo_b _ hk (fun o c g => ?_)
      obtain ⟨rfl, g⟩ := g
      have hk1 : nI k + 1 = nI (k + 1) := nI_1 k
      rw [hk1]
      rcases g with ⟨e1, g⟩ | ⟨e1, g⟩
      · rw [e1, if_neg (by decide)]
        have hm : a_ld z q2.2 ∈ R := getElem?_mem_iff.mp (g.resolve_left (by decide))
        refine xo_m (ih (k + 1) s R (by omega) (by omega) hR (fun j q3 hj hq3 => ?_)) (fun o c g => ⟨by have := g.1; omega, g.2⟩)
        by_cases e2 : j = k
        · subst e2; rw [hq] at hq3; cases hq3; exact hm
        · exact hp j q3 (by omega) hq3
      · rw [e1, if_pos rfl]
        have hm : a_ld z q2.2 ∉ R := fun w => g (Or.inr (getElem?_mem_iff.mpr w))
        refine xo_wr R.length rfl (by omega) (by omega) ?_
        have hr1 : nI R.length + 1 = nI (R ++ [a_ld z q2.2]).length := by rw [nI_1, List.length_append]; rfl
        rw [hr1]
        have hR2 : RR m z x (Md_set_reached s ((Md_reached s).1, upd (Md_reached s).2 R.length (nI (a_ld z q2.2)))) (R ++ [a_ld z q2.2]) := by
          obtain ⟨⟨g0, rfl, g1⟩, g2, g3, g4⟩ := hR
          refine ⟨⟨upd g0 R.length (nI (a_ld z q2.2)), rfl, fun j r hj => ?_⟩, ?_, ?_, ?_⟩
          · rw [upd_at]
            rcases getElem?_snoc hj with hj | ⟨e3, e4⟩
            · have := (List.getElem?_eq_some_iff.mp hj).1
              rw [if_neg (by omega)]
              exact g1 j r hj
            · rw [if_pos e3, e4]
          · rw [List.nodup_append]
            refine ⟨g2, by simp, fun a ha c hc => ?_⟩
            rw [List.mem_singleton] at hc
            subst hc
            exact fun e => hm (e ▸ ha)
          · intro r hr
            rcases List.mem_append.mp hr with hr | hr
            · exact g3 r hr
            · rw [List.mem_singleton] at hr
              subst hr
              exact ⟨hv.2.1, hv.2.2, a_rch_s hi hb (List.mem_of_getElem? hq)⟩
          · have := (List.getElem?_eq_some_iff.mp g4).1
            rw [List.getElem?_append_left this]
            exact g4
        refine xo_m (ih (k + 1) _ (R ++ [a_ld z q2.2]) (by omega) (by omega) hR2 (fun j q3 hj hq3 => ?_)) (fun o c g => ⟨by have := g.1; omega, ?_⟩)
        · by_cases e2 : j = k
          · subst e2; rw [hq] at hq3; cases hq3; exact List.mem_append.mpr (Or.inr (by simp))
          · exact List.mem_append.mpr (Or.inl (hp j q3 (by omega) hq3))
        · obtain ⟨-, R2, w1, w2, ⟨E, w3⟩, w4⟩ := g
          exact ⟨R2, w1, w2, ⟨[a_ld z q2.2] ++ E, by rw [w3, List.append_assoc]⟩, w4⟩
theorem r_reachL {n : Nat} (hn : 100000 ≤ n) {m : S_Md} {z : AS} {st : Nat → Nat} (hL : RL m) (hZ : RZ m z st) (hw : a_wf z) (ht : a_t z ≤ 512) (hs : a_sum z ≤ 512) {x : Nat} (y1 : Int32) : ∀ (fuel i : Nat) (s : S_Md) (R : List Nat), a_t z - i < fuel → i ≤ R.length → RR m z x s R → (∀ j r b, j < i → R[j]? = some r → a_bd z r b → ∀ q ∈ a_fl z b, a_ld z q.2 ∈ R) → xo (L_Md_reach_16 y1 n fuel (nI R.length) (nI i) s) (fun o c => c = 0 ∧ ∃ R2, o.1 = nI R2.length ∧ RR m z x o.2.2 R2 ∧ ∀ r b, r ∈ R2 → a_bd z r b → ∀ q ∈ a_fl z b, a_ld z q.2 ∈ R2) := by
  intro fuel
  induction fuel with
  | zero => intro i s R h; omega
  | succ fuel ih =>
    intro i s R h1 h2 hR hp
    have hLs := RR_L hR hL
    have hZs := RR_Z hR hZ
    have hlen := RR_len hw hR
    have l9 : (Md_reached s).1 = 32768 := hLs.2.2.1.2.1
    rw [L_Md_reach_16_s]
    refine xo_le _ _ rfl rfl (by omega) (by omega) (fun q => ?_) (fun q => ?_)
    · refine xo_p ⟨rfl, R, rfl, hR, fun r b hr => ?_⟩
      obtain ⟨j, hj⟩ := List.getElem?_of_mem hr
      have := (List.getElem?_eq_some_iff.mp hj).1
      exact hp j r b (by omega) hj
    · have hg : R[i]? = some R[i] := List.getElem?_eq_getElem q
      generalize R[i] = r at hg
      obtain ⟨ra, rl, rr⟩ := hR.2.2.1 r (List.mem_of_getElem? hg)
      refine xo_rd i rfl (by omega) (by omega) ?_
      rw [RR_at hR hg]
      refine xo_b _ (r_meant hn hLs hZs hw ht ra) (fun o c g => ?_)
      obtain ⟨rfl, b, hb, rfl⟩ := g
      have h6 := hZ.2.2.2.2.2.2.1 b hb.1
      have h36 := r_reach1 (n := n) hn hL hZ hw ht hs rr hb y1 (nI i) n 0 s R (by omega) (Nat.zero_le _) hR (fun j q hj => by omega)
      rw [← nI0] at h36
      refine xo_b _ h36 (fun o c g => ?_)
      obtain ⟨rfl, R2, w1, w2, ⟨E, w3⟩, w4⟩ := g
      rw [w1, nI_1]
      have hsub : ∀ v, v ∈ R → v ∈ R2 := fun v hv => by rw [w3]; exact List.mem_append.mpr (Or.inl hv)
      refine xo_m (ih (i + 1) o.2.2 R2 (by omega) (by rw [w3, List.length_append]; omega) w2 (fun j r2 b2 hj hr2 hb2 q2 hq2 => ?_)) (fun o c g => ⟨by have := g.1; omega, g.2⟩)
      have hr3 : R[j]? = some r2 := by
        rw [w3, List.getElem?_append_left (by omega)] at hr2
        exact hr2
      by_cases e : j = i
      · subst e
        rw [hg] at hr3
        cases hr3
        obtain ⟨q3, k1, k2⟩ := a_bd_mem hw hb2 hb hq2
        rw [← k2]
        exact w4 q3 k1
      · exact hsub _ (hp j r2 b2 (by omega) hr3 hb2 q2 hq2)
theorem r_reach {n : Nat} (hn : 100000 ≤ n) {m : S_Md} {z : AS} {st : Nat → Nat} (hL : RL m) (hZ : RZ m z st) (hw : a_wf z) (ht : a_t z ≤ 512) (hs : a_sum z ≤ 512) {x : Nat} (hx : al z x) : xo (m_Md_reach n m (nI x)) (fun o c => c = 0 ∧ ∃ R, o.1 = nI R.length ∧ RR m z x o.2 R ∧ (∀ r b, r ∈ R → a_bd z r b → ∀ q ∈ a_fl z b, a_ld z q.2 ∈ R) ∧ R.length ≤ a_t z) := by
  obtain ⟨l1, l2, l3, l4, l5, l6, l7, l8⟩ := r_lens hL
  have l9 : (Md_reached m).1 = 32768 := hL.2.2.1.2.1
  have hxl := al_lt hw hx
  have hv := hw.2.2.1 _ hx
  unfold m_Md_reach
  refine xo_rd x rfl (by omega) (by omega) ?_
  rw [hZ.2.2.2.2.2.1 x hx]
  refine xo_wr 0 nI0 (by omega) (by omega) ?_
  have hR : RR m z x (Md_set_reached m ((Md_reached m).1, upd (Md_reached m).2 0 (nI (a_ld z x)))) [a_ld z x] := by
    refine ⟨⟨upd (Md_reached m).2 0 (nI (a_ld z x)), by rw [l9], fun k r hk => ?_⟩, by simp, fun r hr => ?_, rfl⟩
    · cases k with
      | zero => cases hk; rfl
      | succ k => exact absurd hk (by simp)
    · rw [List.mem_singleton] at hr
      subst hr
      exact ⟨hv.2.1, hv.2.2, a_rch_0⟩
  have hh := r_reachL (n := n) hn hL hZ hw ht hs (nI x) n 0 _ [a_ld z x] (by omega) (Nat.zero_le _) hR (fun j r b hj => by omega)
  rw [← nI0, show nI ([a_ld z x] : List Nat).length = (1 : Int32) from nI1.symm] at hh
  refine xo_b _ hh (fun o c g => ?_)
  obtain ⟨rfl, R2, w1, w2, w3⟩ := g
  exact xo_p ⟨rfl, R2, w1, w2, w3, RR_len hw w2⟩
/-- a closed row that holds the start is what is reached -/
theorem rch_of {z : AS} {x : Nat} {R : List Nat} (h0 : a_ld z x ∈ R) (h : ∀ r b, r ∈ R → a_bd z r b → ∀ q ∈ a_fl z b, a_ld z q.2 ∈ R) {y : Nat} (hy : a_rch z x y) : y ∈ R := hy (fun y => y ∈ R) h0 (fun i b q h1 h2 h3 => h i b h1 h2 q h3)
