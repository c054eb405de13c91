/-! count -/
noncomputable def pb (p : Prop) : Bool := @decide p (Classical.propDecidable p)
theorem pb_t {p : Prop} (h : p) : pb p = true := by unfold pb; exact @decide_eq_true p (Classical.propDecidable p) h
theorem pb_f {p : Prop} (h : ¬ p) : pb p = false := by unfold pb; exact @decide_eq_false p (Classical.propDecidable p) h
theorem pb_iff {p : Prop} : pb p = true ↔ p := by
  by_cases h : p
  · rw [pb_t h]; exact ⟨fun _ => h, fun _ => rfl⟩
  · rw [pb_f h]; exact ⟨fun q => absurd q (by decide), fun q => absurd q h⟩
noncomputable def a_open (z : AS) (i : Nat) : Bool := pb (al z i ∧ a_ld z i = i ∧ a_var z i)
noncomputable def f_count (F : FS) (p : Int32) : Int32 := if p = 0 then nI (cnt (fun i => decide (a_kd (f_z F) i ≠ -1)) (a_t (f_z F))) else if p = 1 then nI (a_sum (f_z F)) else if p = 2 then nI (f_pu F).length else if p = 3 then nI (cnt (a_open (f_z F)) (a_t (f_z F))) else if p = 4 then nI (f_to F).length else if p = 5 then nI (cnt (f_mk F) (a_t (f_z F))) else -1
theorem o_varL {n : Nat} {s : S_No} {z : AS} {st bd : Nat → Nat} {u lw : Nat} (hC : CN s z st bd u lw) (hw : a_wf z) : ∀ (fuel i : Nat) (v : Int32), a_t z - i < fuel → i ≤ a_t z → v = nI (cnt (a_open z) i) → xo (L_No_variableLeaders_4 s n fuel v (nI i)) (fun o c => c = 0 ∧ o.1 = nI (cnt (a_open z) (a_t z))) := by
  have ht := hC.2.2.2.2.2.2.2.2.2.2.2.2.2.2.1
  intro fuel
  induction fuel with
  | zero => intro i v h; omega
  | succ fuel ih =>
    intro i v h1 h2 h3
    rw [L_No_variableLeaders_4_s]
    refine xo_le (a_t z) i hC.2.2.1.1 rfl (by omega) (by omega) (fun q => ?_) (fun q => ?_)
    · have : i = a_t z := by omega
      subst this
      exact xo_p ⟨rfl, h3⟩
    · have step : ∀ b : Bool, a_open z i = b → cnt (a_open z) (i + 1) = cnt (a_open z) i + (if b then 1 else 0) := fun b hb => by rw [cnt_s, hb]
      rcases o_has (n := n) hC hw (nI i) with ⟨j, hj, e⟩ | ⟨hj, e⟩
      · have ej : i = j := (nI_eq (by omega) (by have := al_lt hw hj.2; omega)).mp hj.1
        subst ej
        have hi := hj.2
        obtain ⟨e1, e2, e3, l1, l2, l3, l4, l5, l6, l7, l8, l9, l10, l11⟩ := o_bd hC hw hi
        rw [e, xm_b_p, if_neg (by decide)]
        refine xo_rd i rfl (by omega) (by omega) ?_
        rw [e1]
        refine xo_eq (a_ld z i) i rfl rfl (by omega) (by omega) (fun w => ?_) (fun w => ?_)
        · obtain ⟨b, hb, ek⟩ := o_kindOf (n := n) hC hw hi
          rw [ek, xm_b_p]
          refine xo_if (fun w2 => ?_) (fun w2 => ?_)
          · rw [h3, nI_1, nI_1]
            refine ih (i + 1) _ (by omega) (by omega) ?_
            rw [step true (pb_t ⟨hi, w, by have := (a_var_bd hb).mpr w2; rwa [w] at this⟩)]
            rfl
          · rw [nI_1]
            refine ih (i + 1) _ (by omega) (by omega) ?_
            rw [step false (pb_f (fun q => w2 ((a_var_bd hb).mp (by rw [w]; exact q.2.2)))), h3]
            rfl
        · rw [nI_1]
          refine ih (i + 1) _ (by omega) (by omega) ?_
          rw [step false (pb_f (fun q => w q.2.1)), h3]
          rfl
      · rw [e, xm_b_p, if_pos rfl, nI_1]
        refine ih (i + 1) _ (by omega) (by omega) ?_
        rw [step false (pb_f (fun q => hj i ⟨rfl, q.1⟩)), h3]
        rfl
theorem c_count {n : Nat} (hn : 100000 ≤ n) {s : S_Ts} {F : FS} {c : Nat} (hC : CT s F) (hF : FI F c) {p : Int32} : xo (m_Ts_count n s p) (fun o d => d = 0 ∧ o = f_count F p) := by
  obtain ⟨⟨st, bd, lw, h1⟩, h2, h3, h4, h5, -⟩ := hC
  have ht := h1.2.2.2.2.2.2.2.2.2.2.2.2.2.2.1
  unfold m_Ts_count f_count
  by_cases e0 : p = 0
  · rw [if_pos e0, if_pos e0]; exact xo_p ⟨rfl, h1.2.2.1.2.2.1⟩
  rw [if_neg e0, if_neg e0]
  by_cases e1 : p = 1
  · rw [if_pos e1, if_pos e1]; exact xo_p ⟨rfl, h1.2.2.1.2.2.2⟩
  rw [if_neg e1, if_neg e1]
  by_cases e2 : p = 2
  · rw [if_pos e2, if_pos e2]; exact xo_p ⟨rfl, h4.2.2.1⟩
  rw [if_neg e2, if_neg e2]
  by_cases e3 : p = 3
  · rw [if_pos e3, if_pos e3]
    unfold m_No_variableLeaders
    have hh := o_varL (n := n) h1 hF.1 n 0 0 (by omega) (Nat.zero_le _) nI0
    rw [← nI0] at hh
    refine xo_b (fun o d => d = 0 ∧ o = nI (cnt (a_open (f_z F)) (a_t (f_z F)))) (xo_b _ hh (fun o d g => xo_p ⟨by have := g.1; omega, g.2⟩)) (fun o d g => ?_)
    exact xo_p ⟨by have := g.1; omega, g.2⟩
  rw [if_neg e3, if_neg e3]
  by_cases e4 : p = 4
  · rw [if_pos e4, if_pos e4]; exact xo_p ⟨rfl, h5.2.1⟩
  rw [if_neg e4, if_neg e4]
  by_cases e5 : p = 5
  · rw [if_pos e5, if_pos e5]; exact xo_p ⟨rfl, h2.2⟩
  rw [if_neg e5, if_neg e5]
  exact xo_p ⟨rfl, rfl⟩
theorem r_cntVL {n : Nat} {m : S_Md} {z : AS} {st : Nat → Nat} (hn : 100000 ≤ n) (hL : RL m) (hZ : RZ m z st) (hw : a_wf z) (ht : a_t z ≤ 512) (y : Int32) : ∀ (fuel i : Nat) (v : Int32), a_t z - i < fuel → i ≤ a_t z → v = nI (cnt (a_open z) i) → xo (L_Md_count_57 y m n fuel v (nI i)) (fun o c => c = 0 ∧ o.1 = nI (cnt (a_open z) (a_t z))) := by
  obtain ⟨l1, l2, l3, l4, l5, l6, l7, l8⟩ := r_lens hL
  intro fuel
  induction fuel with
  | zero => intro i v h; omega
  | succ fuel ih =>
    intro i v h1 h2 h3
    rw [L_Md_count_57_s]
    refine xo_le (a_t z) i hZ.1.1 rfl (by omega) (by omega) (fun q => ?_) (fun q => ?_)
    · have : i = a_t z := by omega
      subst this
      exact xo_p ⟨rfl, h3⟩
    · refine xo_rd i rfl (by omega) (by omega) ?_
      rw [hZ.2.1 i (by omega)]
      refine xo_b (fun v c => c = 0 ∧ v = nI (if a_open z i then 1 else 0)) ?_ (fun w c gw => ?_)
      · refine xo_if (fun e => ?_) (fun e => ?_)
        · exact xo_p ⟨rfl, by rw [show a_open z i = false from pb_f (fun q => q.1 e)]; exact nI0⟩
        · have hi : al z i := e
          refine xo_rd i rfl (by omega) (by omega) ?_
          rw [hZ.2.2.2.2.2.1 i hi]
          have b1 := al_lt hw (hw.2.2.1 i hi).2.1
          refine xo_eq (a_ld z i) i rfl rfl (by omega) (by omega) (fun w => ?_) (fun w => ?_)
          · refine xo_b _ (r_meant hn hL hZ hw ht hi) (fun o c g => ?_)
            obtain ⟨rfl, b, hb, rfl⟩ := g
            have hbl := al_lt hw hb.1
            refine xo_rd b rfl (by omega) (by omega) ?_
            rw [hZ.2.1 b (by omega)]
            refine xo_if (fun w2 => ?_) (fun w2 => ?_)
            · exact xo_p ⟨rfl, by rw [show a_open z i = true from pb_t ⟨hi, w, by have := (a_var_bd hb).mpr w2; rwa [w] at this⟩]; exact nI1⟩
            · exact xo_p ⟨rfl, by rw [show a_open z i = false from pb_f (fun q => w2 ((a_var_bd hb).mp (by rw [w]; exact q.2.2)))]; exact nI0⟩
          · exact xo_p ⟨rfl, by rw [show a_open z i = false from pb_f (fun q => w q.2.1)]; exact nI0⟩
      · obtain ⟨rfl, rfl⟩ := gw
        rw [nI_1, h3, nI_add]
        refine xo_m (ih (i + 1) _ (by omega) (by omega) ?_) (fun o c g => ⟨by have := g.1; omega, g.2⟩)
        rw [cnt_s]
theorem r_cntML {n : Nat} {m : S_Md} {z : AS} {st : Nat → Nat} {mk : Nat → Bool} (hL : RL m) (hZ : RZ m z st) (hM : RMk m z mk) (hm : ∀ i, mk i = true → al z i) (ht : a_t z ≤ 512) (y : Int32) : ∀ (fuel i : Nat) (v : Int32), a_t z - i < fuel → i ≤ a_t z → v = nI (cnt mk i) → xo (L_Md_count_121 y m n fuel v (nI i)) (fun o c => c = 0 ∧ o.1 = nI (cnt mk (a_t z))) := by
  obtain ⟨l1, l2, l3, l4, l5, l6, l7, l8⟩ := r_lens hL
  have l9 := hL.1.2.2.2.2.2.1
  intro fuel
  induction fuel with
  | zero => intro i v h; omega
  | succ fuel ih =>
    intro i v h1 h2 h3
    rw [L_Md_count_121_s]
    refine xo_le (a_t z) i hZ.1.1 rfl (by omega) (by omega) (fun q => ?_) (fun q => ?_)
    · have : i = a_t z := by omega
      subst this
      exact xo_p ⟨rfl, h3⟩
    · refine xo_rd i rfl (by omega) (by omega) ?_
      rw [hZ.2.1 i (by omega)]
      refine xo_b (fun v c => c = 0 ∧ v = nI (if mk i then 1 else 0)) ?_ (fun w c gw => ?_)
      · refine xo_if (fun e => ?_) (fun e => ?_)
        · refine xo_p ⟨rfl, ?_⟩
          rw [if_neg (fun w => hm i w e)]
          exact nI0
        · refine xo_rd i rfl (by omega) (by omega) ?_
          rw [hM i e]
          by_cases w : mk i = true
          · rw [if_pos w, if_neg (by decide), if_pos w]; exact xo_p ⟨rfl, nI1⟩
          · rw [if_neg w, if_pos rfl, if_neg w]; exact xo_p ⟨rfl, nI0⟩
      · obtain ⟨rfl, rfl⟩ := gw
        rw [nI_1, h3, nI_add]
        refine xo_m (ih (i + 1) _ (by omega) (by omega) ?_) (fun o c g => ⟨by have := g.1; omega, g.2⟩)
        rw [cnt_s]
theorem r_count {n : Nat} (hn : 100000 ≤ n) {m : S_Md} {F : FS} {c : Nat} (hC : RM m F) (hF : FI F c) {p : Int32} : xo (m_Md_count n m p) (fun o d => d = 0 ∧ o = f_count F p) := by
  obtain ⟨h1, ⟨st, h2⟩, h3, h4, h5, h6⟩ := hC
  have hb := hF.2.2.2.2.1
  unfold m_Md_count f_count
  by_cases e0 : p = 0
  · rw [if_pos e0, if_pos e0]; exact xo_p ⟨rfl, h2.1.2.1⟩
  rw [if_neg e0, if_neg e0]
  by_cases e1 : p = 1
  · rw [if_pos e1, if_pos e1]; exact xo_p ⟨rfl, h2.1.2.2⟩
  rw [if_neg e1, if_neg e1]
  by_cases e2 : p = 2
  · rw [if_pos e2, if_pos e2]; exact xo_p ⟨rfl, h5.1⟩
  rw [if_neg e2, if_neg e2]
  by_cases e3 : p = 3
  · rw [if_pos e3, if_pos e3]
    have hh := r_cntVL (n := n) hn h1 h2 hF.1 (by omega) p n 0 0 (by omega) (Nat.zero_le _) nI0
    rw [← nI0] at hh
    refine xo_b _ hh (fun o d g => ?_)
    exact xo_p ⟨by have := g.1; omega, g.2⟩
  rw [if_neg e3, if_neg e3]
  by_cases e4 : p = 4
  · rw [if_pos e4, if_pos e4]; exact xo_p ⟨rfl, h6.1⟩
  rw [if_neg e4, if_neg e4]
  by_cases e5 : p = 5
  · rw [if_pos e5, if_pos e5]
    have hh := r_cntML (n := n) h1 h2 h3 hF.2.2.2.2.2.1 (by omega) p n 0 0 (by omega) (Nat.zero_le _) nI0
    rw [← nI0] at hh
    refine xo_b _ hh (fun o d g => ?_)
    exact xo_p ⟨by have := g.1; omega, g.2⟩
  rw [if_neg e5, if_neg e5]
  exact xo_p ⟨rfl, rfl⟩
