/-! fields are added -/
def sumf (f : Nat → Nat) : Nat → Nat
  | 0 => 0
  | t + 1 => sumf f t + f t
theorem sumf_s (f : Nat → Nat) (t : Nat) : sumf f (t + 1) = sumf f t + f t := rfl
theorem sumf_congr {f g : Nat → Nat} {t : Nat} (h : ∀ i, i < t → f i = g i) : sumf f t = sumf g t := by
  induction t with
  | zero => rfl
  | succ t ih => rw [sumf_s, sumf_s, ih (fun i hi => h i (by omega)), h t (by omega)]
theorem sumf_set {f g : Nat → Nat} {t x a : Nat} (hx : x < t) (hf : f x = 0) (hg : g x = a) (h : ∀ i, i ≠ x → f i = g i) : sumf g t = sumf f t + a := by
  induction t with
  | zero => omega
  | succ t ih =>
    rw [sumf_s, sumf_s]
    by_cases e : x = t
    · subst e
      rw [sumf_congr (f := f) (g := g) (fun i hi => h i (by omega)), hf, hg, Nat.add_zero]
    · rw [ih (by omega), h t (by omega)]
      omega
theorem sumf_ext {f : Nat → Nat} {t u : Nat} (h : t ≤ u) (hf : ∀ i, t ≤ i → f i = 0) : sumf f u = sumf f t := by
  induction u with
  | zero => have : t = 0 := by omega
            subst this; rfl
  | succ u ih =>
    by_cases e : t = u + 1
    · subst e; rfl
    · rw [sumf_s, ih (by omega), hf u (by omega), Nat.add_zero]
def a_sum (z : AS) : Nat := sumf (fun i => (a_fl z i).length) (a_t z)
theorem a_sum_add {z : AS} (hw : a_wf z) {x : Nat} {k v : Int32} {f : List (Int32 × Nat)} (hx : z_least z x) : a_sum (z_add z x k v f) = a_sum z + f.length := by
  have hxt := z_least_le hw hx
  have h0 : (a_fl z x).length = 0 := by rw [(hw.2.2.2.1 x hx.1).2]; rfl
  have e1 : ∀ i, i ≠ x → (fun i => (a_fl z i).length) i = (fun i => (a_fl (z_add z x k v f) i).length) i := fun i hi => by
    show (a_fl z i).length = (if i = x then f else a_fl z i).length
    rw [if_neg hi]
  have e2 : (fun i => (a_fl (z_add z x k v f) i).length) x = f.length := by
    show (if x = x then f else a_fl z x).length = f.length
    rw [if_pos rfl]
  have e3 : a_sum z = sumf (fun i => (a_fl z i).length) (max (a_t z) (x + 1)) := by
    unfold a_sum
    refine (sumf_ext (Nat.le_max_left _ _) (fun i hi => ?_)).symm
    rw [(hw.2.2.2.1 i (fun q => q (hw.1 i hi))).2]; rfl
  rw [e3]
  exact sumf_set (Nat.lt_of_lt_of_le (Nat.lt_succ_self x) (Nat.le_max_right _ _)) h0 e2 e1
theorem o_takeIn {n : Nat} {s : S_Fi} {p : S_Pu} {pu : List (Int32 × Nat)} {u : Nat} (hs1 : ArOk (Fi_features s) u) (hs2 : ArOk (Fi_parts s) u) (hU : Fi_used s = nI u) (hp : CP p pu) (hu : u + pu.length ≤ 2048) : xo (m_Fi_takeIn n s p) (fun o c => o.1 = nI u ∧ ArOk (Fi_features o.2) (u + pu.length) ∧ ArOk (Fi_parts o.2) (u + pu.length) ∧ Fi_used o.2 = nI (u + pu.length) ∧ (∀ j, j < u → (Fi_features o.2).2 j = (Fi_features s).2 j ∧ (Fi_parts o.2).2 j = (Fi_parts s).2 j) ∧ (∀ k q, pu[k]? = some q → (Fi_features o.2).2 (u + k) = q.1 ∧ (Fi_parts o.2).2 (u + k) = nI q.2) ∧ Fi_nextFeatures o.2 = Fi_nextFeatures s ∧ Fi_nextParts o.2 = Fi_nextParts s ∧ c + 2 * ((Fi_features s).1 + (Fi_parts s).1) ≤ 2 * ((Fi_features o.2).1 + (Fi_parts o.2).1)) := by
  obtain ⟨h1, h2, h3, h4, h5⟩ := hp
  unfold m_Fi_takeIn
  rw [hU, h3, nI_add]
  refine xo_b _ (o_roomK hs1 (m := u + pu.length) hu) (fun a1 c1 g1 => ?_)
  refine xo_b _ (o_roomK hs2 (m := u + pu.length) hu) (fun a2 c2 g2 => ?_)
  obtain ⟨p1, q1, r1, t1⟩ := g1
  obtain ⟨p2, q2, r2, t2⟩ := g2
  have b1 := h1.2.2
  have b2 := h2.2.2
  have b3 := p1.2.2
  have b4 := p2.2.2
  have b5 := hs1.2.2
  have b6 := hs2.2.2
  refine xo_cp 0 u pu.length nI0 rfl rfl (by omega) (by omega) (by omega) (by omega) ?_
  refine xo_cp 0 u pu.length nI0 rfl rfl (by omega) (by omega) (by omega) (by omega) ?_
  refine xo_p ⟨rfl, ⟨p1.1, p1.2.1, p1.2.2⟩, ⟨p2.1, p2.2.1, p2.2.2⟩, rfl, fun j hj => ?_, fun k q hq => ?_, rfl, rfl, ?_⟩
  · show va_cpy (Pu_features p).2 a1.2 0 u pu.length j = _ ∧ va_cpy (Pu_parts p).2 a2.2 0 u pu.length j = _
    rw [pk_cpy_out (Or.inl hj), pk_cpy_out (Or.inl hj)]
    exact ⟨r1 j (by omega), r2 j (by omega)⟩
  · have hk := (List.getElem?_eq_some_iff.mp hq).1
    show va_cpy (Pu_features p).2 a1.2 0 u pu.length (u + k) = _ ∧ va_cpy (Pu_parts p).2 a2.2 0 u pu.length (u + k) = _
    rw [pk_cpy_in (by omega) (by omega), pk_cpy_in (by omega) (by omega)]
    have e : 0 + (u + k - u) = k := by omega
    rw [e]
    exact h5 k q hq
  · show c1 + (c2 + 0) + 2 * ((Fi_features s).1 + (Fi_parts s).1) ≤ 2 * (a1.1 + a2.1)
    omega
theorem o_addWith {n : Nat} (hn : 100000 ≤ n) {s : S_No} {p : S_Pu} {z : AS} {st bd : Nat → Nat} {u lw : Nat} {mk : Nat → Bool} {ld : Nat → Nat} {nd : Nat → Prop} {pu : List (Int32 × Nat)} (hC : CN s z st bd u lw) (hM : CM s (a_t z) mk ld) (hD : CD s z nd) (hP : CP p pu) (hw : a_wf z) (ht : a_t z < 512) (hu : u + pu.length ≤ 512) {k v : Int32} (hk : k = 3 ∨ k = 4) : xo (m_No_addWithFields n s p k v) (fun o c => ∃ x st', z_least z x ∧ o.1 = nI x ∧ CN o.2.1 (z_add z x k v pu) st' (fun i => if i = x then x else bd i) (u + pu.length) (x + 1) ∧ CM o.2.1 (a_t (z_add z x k v pu)) (fun _ => false) (a_ld (z_add z x k v pu)) ∧ CD o.2.1 (z_add z x k v pu) (fun r => r ≠ x ∧ nd r) ∧ CP o.2.2 [] ∧ c + 2 * (LNo s + LPu p) ≤ 2 * (LNo o.2.1 + LPu o.2.2)) := by
  have hv := hC.2.2.1.2.2.1
  have hU := hC.2.2.1.2.2.2
  have hc := cnt_le (fun i => decide (a_kd z i ≠ -1)) (a_t z)
  have hk5 : k = 0 ∨ k = 1 ∨ k = 2 ∨ k = 3 ∨ k = 4 := by rcases hk with rfl | rfl <;> simp
  have hk1 : k ≠ -1 := by rcases hk with rfl | rfl <;> decide
  have hk0 : k ≠ 0 := by rcases hk with rfl | rfl <;> decide
  unfold m_No_addWithFields
  refine xo_le 32768 _ (by decide +kernel) hv (by omega) (by omega) (fun q => absurd q (by omega)) (fun _ => ?_)
  have eu : Fi_used (No_fields s) + Pu_size p = nI (u + pu.length) := by rw [hU, hP.2.2.1, nI_add]
  refine xo_le (u + pu.length) 65536 eu (by decide +kernel) (by omega) (by omega) (fun _ => ?_) (fun q => absurd q (by omega))
  refine xo_b _ (o_low hn hC hw) (fun a c1 h1 => ?_)
  obtain ⟨e1, x, rfl, hx⟩ := h1
  have hxt := z_least_le hw hx
  refine xo_b _ (o_settle hn hC hM hD hw ht hx hk5) (fun b c2 h2 => ?_)
  obtain ⟨g1, g2, g3, g4, g5, g6, g7⟩ := h2
  obtain ⟨hA, hF, ⟨hT2, hL2, hV2, hU2⟩, d1, d2, d3, d4, d5, d6, d7, d8, d9, d10, d11, d12⟩ := g2
  have ht' : a_t (z_add z x k v []) = max (a_t z) (x + 1) := rfl
  have hxlt : x < a_t (z_add z x k v []) := by rw [ht']; omega
  have hal0 := fun i => z_add_al (z := z) (x := x) (v := v) (f := []) hk1 i
  have hal := fun i => z_add_al (z := z) (x := x) (v := v) (f := pu) hk1 i
  have halE : ∀ i, al (z_add z x k v pu) i ↔ al (z_add z x k v []) i := fun i => (hal i).trans (hal0 i).symm
  rw [g1]
  have k4 := hA.2.2.2.1.2.2
  have k3 := hA.2.2.1.2.2
  refine xo_wr x rfl (by omega) (by omega) ?_
  refine xo_b _ (o_takeIn (n := n) (s := No_fields b.2) (u := u) (by exact hF.1) (by exact hF.2.1) hU2 hP (by omega)) (fun b3 c3 h3 => ?_)
  obtain ⟨f1, f2, f3, f4, f5, f6, f7, f8, f9⟩ := h3
  refine xo_wr x rfl (by omega) (by omega) ?_
  rw [f1, hP.2.2.1]
  have elen : ∀ i, (a_fl (z_add z x k v pu) i).length = if i = x then pu.length else (a_fl (z_add z x k v []) i).length := by
    intro i
    show (if i = x then pu else a_fl z i).length = if i = x then pu.length else (if i = x then ([] : List (Int32 × Nat)) else a_fl z i).length
    by_cases e : i = x
    · rw [if_pos e, if_pos e]
    · rw [if_neg e, if_neg e, if_neg e]
  have hle : ∀ i, al (z_add z x k v []) i → i ≠ x → (if i = x then 0 else st i) + (a_fl (z_add z x k v []) i).length ≤ u := fun i hi _ => d8 i hi
  refine xo_p ⟨x, fun i => if i = x then u else st i, hx, rfl, ⟨?_, ?_, ?_, ?_, ?_, ?_, ?_, ?_, ?_, ?_, ?_, ?_, ?_, ?_, ?_⟩, ⟨g3.1, g3.2⟩, ⟨?_, ?_⟩, ⟨?_, ?_, nI0, by show 0 ≤ 255; omega, fun m q hq => by simp at hq⟩, ?_⟩
  · exact ⟨hA.1, hA.2.1, ⟨hA.2.2.1.1, hA.2.2.1.2.1, hA.2.2.1.2.2⟩, ⟨hA.2.2.2.1.1, hA.2.2.2.1.2.1, hA.2.2.2.1.2.2⟩, hA.2.2.2.2⟩
  · refine ⟨f2, f3, ?_, ?_, hF.2.2.2.2⟩
    · show ArOk (Fi_nextFeatures b3.2) 0
      rw [f7]; exact hF.2.2.1
    · show ArOk (Fi_nextParts b3.2) 0
      rw [f8]; exact hF.2.2.2.1
  · refine ⟨hT2, hL2, ?_, f4⟩
    show No_alive b.2 = _
    rw [hV2, cnt_add hw hx hk1, cnt_add hw hx hk1]
  · exact d1
  · intro i hi
    exact d2 i ((halE i).mp hi)
  · intro i hi
    show upd (No_sizes b.2).2 x (nI pu.length) i = _
    rw [upd_at, elen i]
    by_cases e : i = x
    · rw [if_pos e, if_pos e]
    · rw [if_neg e, if_neg e]; exact d3 i hi
  · intro i hi
    show upd (No_starts b.2).2 x (nI u) i = nI (if i = x then u else st i)
    rw [upd_at]
    by_cases e : i = x
    · rw [if_pos e, if_pos e]
    · rw [if_neg e, if_neg e]
      have := d4 i ((halE i).mp hi)
      simp only [if_neg e] at this
      exact this
  · exact d5
  · exact d6
  · intro r hr hrl
    obtain ⟨q1, q2, q3⟩ := d7 r ((halE r).mp hr) hrl
    exact ⟨(halE _).mpr q1, q2, fun h0 j hj hjl => q3 h0 j ((halE j).mp hj) hjl⟩
  · intro i hi
    show (if i = x then u else st i) + (a_fl (z_add z x k v pu) i).length ≤ u + pu.length
    rw [elen i]
    by_cases e : i = x
    · rw [if_pos e, if_pos e]; exact Nat.le_refl _
    · rw [if_neg e, if_neg e]
      have := d8 i ((halE i).mp hi)
      simp only [if_neg e] at this
      omega
  · intro i m hi q hq
    show (Fi_features b3.2).2 ((if i = x then u else st i) + m) = q.1 ∧ (Fi_parts b3.2).2 ((if i = x then u else st i) + m) = nI q.2
    have hq' : (if i = x then pu else a_fl z i)[m]? = some q := hq
    by_cases e : i = x
    · rw [if_pos e] at hq' ⊢
      exact f6 m q hq'
    · rw [if_neg e] at hq' ⊢
      have hi0 := (halE i).mp hi
      have hm := (List.getElem?_eq_some_iff.mp hq').1
      have h8 := d8 i hi0
      have e8 : (a_fl (z_add z x k v []) i) = a_fl z i := by
        show (if i = x then ([] : List (Int32 × Nat)) else a_fl z i) = _
        rw [if_neg e]
      simp only [if_neg e, e8] at h8
      rw [(f5 (st i + m) (by omega)).1, (f5 (st i + m) (by omega)).2]
      have h9 := d9 i m hi0 q (by rw [e8]; exact hq')
      simp only [if_neg e] at h9
      exact h9
  · intro i j hi hj hij
    show (if i = x then u else st i) + (a_fl (z_add z x k v pu) i).length ≤ (if j = x then u else st j) ∨ (if j = x then u else st j) + (a_fl (z_add z x k v pu) j).length ≤ (if i = x then u else st i)
    have h8i := d8 i ((halE i).mp hi)
    have h8j := d8 j ((halE j).mp hj)
    have h10 := d10 i j ((halE i).mp hi) ((halE j).mp hj) hij
    rw [elen i, elen j]
    by_cases e : i = x
    · have e2 : j ≠ x := fun q => hij (e.trans q.symm)
      simp only [if_pos e, if_neg e2] at h8j ⊢
      exact Or.inr h8j
    · by_cases e2 : j = x
      · simp only [if_neg e, if_pos e2] at h8i ⊢
        exact Or.inl h8i
      · simp only [if_neg e, if_neg e2] at h10 ⊢
        exact h10
  · intro i hi
    exact (halE i).mpr (d11 i hi)
  · exact ⟨d12.1, hu⟩
  · intro r hr hrl hrv
    exact g4.1 r ((halE r).mp hr) hrl (fun j hj hjl => hrv j ((halE j).mpr hj) hjl)
  · intro i hi hiv hin
    exact g4.2 i ((halE i).mp hi) (fun j hj hjl => hiv j ((halE j).mpr hj) hjl) hin
  · exact ⟨hP.1.1, hP.1.2.1, Nat.zero_le _⟩
  · exact ⟨hP.2.1.1, hP.2.1.2.1, Nat.zero_le _⟩
  · show c1 + (c2 + (c3 + 0)) + 2 * (LNo s + LPu p) ≤ 2 * (((No_kinds b.2).1 + (No_values b.2).1 + (No_starts b.2).1 + (No_sizes b.2).1 + (No_lead b.2).1 + (No_bodies b.2).1 + (No_needed b.2).1 + (No_marked b.2).1 + (Fi_features b3.2).1 + (Fi_parts b3.2).1 + (Fi_nextFeatures b3.2).1 + (Fi_nextParts b3.2).1 + (Ld_row (No_reached b.2)).1) + ((Pu_features p).1 + (Pu_parts p).1))
    rw [f7, f8]
    unfold LNo LPu at *
    omega
