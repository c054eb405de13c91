abbrev Md_set_FF (m : S_Md) (a b : Ar) (c : Int32) : S_Md := (Md_kinds m, Md_values m, Md_firsts m, Md_manies m, Md_said m, Md_marked m, Md_leaders m, Md_trial m, Md_shown m, Md_end m, Md_nodes m, a, b, c, Md_pushedFeatures m, Md_pushedParts m, Md_pushed m, Md_touched m, Md_touches m, Md_reached m, Md_blocks m, Md_newBlocks m, Md_places m, Md_written m, Md_other m, Md_length m)
/-- a row with a list laid into it from u on -/
def layf (f : Nat → Int32) (u : Nat) (l : List Int32) : Nat → Int32 := fun j => if u ≤ j ∧ j < u + l.length then l.getD (j - u) 0 else f j
theorem layf_snoc (f : Nat → Int32) (u : Nat) (l : List Int32) (v : Int32) : upd (layf f u l) (u + l.length) v = layf f u (l ++ [v]) := by
  funext j
  rw [upd_at]
  unfold layf
  rw [List.length_append]
  by_cases e : j = u + l.length
  · subst e
    rw [if_pos rfl, if_pos (by simp)]
    have : u + l.length - u = l.length := by omega
    rw [this]
    simp
  · rw [if_neg e]
    by_cases e2 : u ≤ j ∧ j < u + l.length
    · rw [if_pos e2, if_pos (by simp; omega)]
      rw [List.getD_eq_getElem?_getD, List.getD_eq_getElem?_getD, List.getElem?_append_left (by omega)]
    · rw [if_neg e2, if_neg (by simp; omega)]
theorem layf_nil (f : Nat → Int32) (u : Nat) : layf f u [] = f := by
  funext j
  unfold layf
  rw [if_neg (by simp)]
theorem r_makeOfL {n : Nat} {m : S_Md} {pu : List (Int32 × Nat)} {u : Nat} {F G : Nat → Int32} (hP : RP m pu) (l3 : (Md_pushedFeatures m).1 = 255) (l4 : (Md_pushedParts m).1 = 255) (hu : u + pu.length ≤ 65536) (y1 y2 y3 : Int32) : ∀ (fuel i : Nat) (s : S_Md), pu.length - i < fuel → i ≤ pu.length → s = Md_set_FF m (65536, layf F u ((pu.take i).map Prod.fst)) (65536, layf G u ((pu.take i).map (fun q => nI q.2))) (nI (u + i)) → xo (L_Md_makeOf_43 y1 y2 y3 n fuel (nI i) s) (fun o c => c = 0 ∧ o.2 = Md_set_FF m (65536, layf F u (pu.map Prod.fst)) (65536, layf G u (pu.map (fun q => nI q.2))) (nI (u + pu.length))) := by
  obtain ⟨h1, h2, h3⟩ := hP
  intro fuel
  induction fuel with
  | zero => intro i s h; omega
  | succ fuel ih =>
    intro i s g1 g2 g3
    rw [L_Md_makeOf_43_s]
    subst g3
    refine xo_le pu.length i h1 rfl (by omega) (by omega) (fun q => ?_) (fun q => ?_)
    · have e : i = pu.length := by omega
      subst e
      refine xo_p ⟨rfl, ?_⟩
      rw [List.take_length]
    · have hg : pu[i]? = some pu[i] := List.getElem?_eq_getElem q
      refine xo_rd i rfl (by show i < (Md_pushedFeatures m).1; omega) (by omega) ?_
      refine xo_wr (u + i) rfl (by show u + i < 65536; omega) (by omega) ?_
      refine xo_rd i rfl (by show i < (Md_pushedParts m).1; omega) (by omega) ?_
      refine xo_wr (u + i) rfl (by show u + i < 65536; omega) (by omega) ?_
      rw [nI_1]
      refine ih (i + 1) _ (by omega) (by omega) ?_
      have et : pu.take (i + 1) = pu.take i ++ [pu[i]] := by rw [List.take_add_one, hg]; rfl
      have el : (pu.take i).length = i := by rw [List.length_take]; omega
      have f1 : upd (layf F u ((pu.take i).map Prod.fst)) (u + i) ((Md_pushedFeatures m).2 i) = layf F u ((pu.take (i + 1)).map Prod.fst) := by
        have := layf_snoc F u ((pu.take i).map Prod.fst) ((Md_pushedFeatures m).2 i)
        rw [List.length_map, el] at this
        rw [this, et, List.map_append, (h3 i _ hg).1]
        rfl
      have f2 : upd (layf G u ((pu.take i).map (fun q => nI q.2))) (u + i) ((Md_pushedParts m).2 i) = layf G u ((pu.take (i + 1)).map (fun q => nI q.2)) := by
        have := layf_snoc G u ((pu.take i).map (fun q => nI q.2)) ((Md_pushedParts m).2 i)
        rw [List.length_map, el] at this
        rw [this, et, List.map_append, (h3 i _ hg).2]
        rfl
      show Md_set_FF m (65536, upd (layf F u ((pu.take i).map Prod.fst)) (u + i) ((Md_pushedFeatures m).2 i)) (65536, upd (layf G u ((pu.take i).map (fun q => nI q.2))) (u + i) ((Md_pushedParts m).2 i)) (nI (u + i) + 1) = _
      rw [f1, f2, nI_1]
      rfl
theorem r_makeOf {n : Nat} (hn : 100000 ≤ n) {m : S_Md} {F : FS} {c : Nat} (hC : RM m F) (hF : FI F c) (hc : c < 512) {k v : Int32} (hk : k = 3 ∨ k = 4) : xoM (m_Md_makeOf n m k v) m (sp_makeOf F k v) := by
  obtain ⟨h1, ⟨st, h2⟩, h3, h4, h5, h6⟩ := hC
  have hb := hF.2.2.2.2.1
  have hk5 : k = 0 ∨ k = 1 ∨ k = 2 ∨ k = 3 ∨ k = 4 := by rcases hk with rfl | rfl <;> simp
  have hk1 : k ≠ -1 := by rcases hk with rfl | rfl <;> decide
  have hw := hF.1
  unfold m_Md_makeOf
  have eu : Md_fields m + Md_pushed m = nI (a_sum (f_z F) + (f_pu F).length) := by rw [h2.1.2.2, h5.1, nI_add]
  refine xo_le _ 65536 eu (by decide +kernel) (by omega) (by omega) (fun _ => ?_) (fun q => absurd q (by omega))
  refine xo_b _ (r_make hn h1 h2 h4 hw (by omega) hk5) (fun o d g => ?_)
  obtain ⟨rfl, x, hx, e1, g1, g2, g3, g4, e2, e3, e4, e5, e6, e7, e8, e9⟩ := g
  have hxt := z_least_le hw hx
  rw [e1, if_pos (nI_pos' (by omega))]
  refine xo_wr x rfl (by rw [g1.1.2.2.2.1]; omega) (by omega) ?_
  obtain ⟨⟨hE, hN, hFl⟩, c1, c2, c3, c4, c5, c6, c7, c8⟩ := g2
  have hsum0 : a_sum (z_add (f_z F) x k v []) = a_sum (f_z F) := a_sum_add (k := k) (v := v) (f := []) hw hx
  have hsum : a_sum (z_add (f_z F) x k v (f_pu F)) = a_sum (f_z F) + (f_pu F).length := a_sum_add hw hx
  rw [hsum0] at hFl
  have hP2 : RP o.2 (f_pu F) := ⟨by rw [e4]; exact h5.1, h5.2.1, fun k q hq => by rw [e2, e3]; exact h5.2.2 k q hq⟩
  have hal0 := fun i => z_add_al (z := f_z F) (x := x) (v := v) (f := []) hk1 i
  have hal := fun i => z_add_al (z := f_z F) (x := x) (v := v) (f := f_pu F) hk1 i
  have halE : ∀ i, al (z_add (f_z F) x k v (f_pu F)) i ↔ al (z_add (f_z F) x k v []) i := fun i => (hal i).trans (hal0 i).symm
  obtain ⟨m1, em1⟩ : ∃ m1 : S_Md, m1 = Md_set_manies o.2 ((Md_manies o.2).1, upd (Md_manies o.2).2 x (Md_pushed o.2)) := ⟨_, rfl⟩
  have hP1 : RP m1 (f_pu F) := by subst em1; exact hP2
  have hl3 : (Md_pushedFeatures m1).1 = 255 := by subst em1; exact g1.2.1.2.2.1
  have hl4 : (Md_pushedParts m1).1 = 255 := by subst em1; exact g1.2.1.2.2.2
  have e0 : m1 = Md_set_FF m1 (65536, layf (Md_features m1).2 (a_sum (f_z F)) (((f_pu F).take 0).map Prod.fst)) (65536, layf (Md_parts m1).2 (a_sum (f_z F)) (((f_pu F).take 0).map (fun q => nI q.2))) (nI (a_sum (f_z F) + 0)) := by
    show m1 = Md_set_FF m1 (65536, layf (Md_features m1).2 (a_sum (f_z F)) []) (65536, layf (Md_parts m1).2 (a_sum (f_z F)) []) (nI (a_sum (f_z F)))
    rw [layf_nil, layf_nil]
    have a1 : ((65536, (Md_features m1).2) : Ar) = Md_features m1 := by subst em1; show (65536, (Md_features o.2).2) = Md_features o.2; rw [← g1.2.1.1]
    have a2 : ((65536, (Md_parts m1).2) : Ar) = Md_parts m1 := by subst em1; show (65536, (Md_parts o.2).2) = Md_parts o.2; rw [← g1.2.1.2.1]
    have a3 : nI (a_sum (f_z F)) = Md_fields m1 := by subst em1; exact hFl.symm
    rw [a1, a2, a3]
  have hL := r_makeOfL (n := n) (m := m1) (u := a_sum (f_z F)) (F := (Md_features m1).2) (G := (Md_parts m1).2) hP1 hl3 hl4 (by omega) k v (nI x) n 0 m1 (by omega) (Nat.zero_le _) e0
  rw [← nI0] at hL
  have hL2 : xo (L_Md_makeOf_43 k v (nI x) n n 0 m1) (fun o c => c = 0 ∧ o.2 = Md_set_FF m1 (65536, layf (Md_features m1).2 (a_sum (f_z F)) ((f_pu F).map Prod.fst)) (65536, layf (Md_parts m1).2 (a_sum (f_z F)) ((f_pu F).map (fun q => nI q.2))) (nI (a_sum (f_z F) + (f_pu F).length))) := hL
  subst em1
  refine xo_b _ hL2 (fun o2 d2 g5 => ?_)
  obtain ⟨rfl, g5⟩ := g5
  rw [g5]
  have lay1 : ∀ (f : Nat → Int32) (l : List Int32) (j : Nat), j < a_sum (f_z F) → layf f (a_sum (f_z F)) l j = f j := fun f l j hj => by
    unfold layf
    rw [if_neg (by omega)]
  refine xo_p ⟨_, ⟨x, hx, rfl, rfl⟩, ⟨⟨g1.1, ⟨rfl, rfl, g1.2.1.2.2⟩, g1.2.2⟩, ⟨fun i => if i = x then a_sum (f_z F) else st i, ⟨hE, ?_, ?_⟩, c1, ?_, ?_, ?_, ?_, ?_, ?_, ?_⟩, ?_, ?_, ⟨nI0, by show 0 ≤ 255; omega, fun k q hq => absurd (show ([] : List (Int32 × Nat))[k]? = some q from hq) (by simp)⟩, ?_⟩, ?_⟩
  · show Md_nodes o.2 = _
    rw [hN, cnt_add hw hx hk1, cnt_add hw hx hk1]
  · show nI (a_sum (f_z F) + (f_pu F).length) = nI (a_sum (z_add (f_z F) x k v (f_pu F)))
    rw [hsum]
  · intro i hi
    exact c2 i ((halE i).mp hi)
  · intro i hi
    show upd (Md_manies o.2).2 x (Md_pushed o.2) i = nI (if i = x then f_pu F else a_fl (f_z F) i).length
    rw [upd_at]
    by_cases e : i = x
    · rw [if_pos e, if_pos e]; exact hP2.1
    · have := c3 i ((halE i).mp hi)
      have h' : (Md_manies o.2).2 i = nI (if i = x then ([] : List (Int32 × Nat)) else a_fl (f_z F) i).length := this
      rw [if_neg e] at h'
      rw [if_neg e, if_neg e, h']
  · intro i hi hne
    by_cases e : i = x
    · subst e
      show (Md_firsts o.2).2 i = nI (if i = i then a_sum (f_z F) else st i)
      rw [if_pos rfl]
      exact e9
    · refine c4 i ((halE i).mp hi) (fun q => hne ?_)
      have q' : (if i = x then ([] : List (Int32 × Nat)) else a_fl (f_z F) i) = [] := q
      show (if i = x then f_pu F else a_fl (f_z F) i) = []
      rw [if_neg e] at q' ⊢
      exact q'
  · intro i hi
    exact c5 i ((halE i).mp hi)
  · intro i hi
    show (if i = x then a_sum (f_z F) else st i) + (if i = x then f_pu F else a_fl (f_z F) i).length ≤ a_sum (z_add (f_z F) x k v (f_pu F))
    rw [hsum]
    by_cases e : i = x
    · rw [if_pos e, if_pos e]; exact Nat.le_refl _
    · have := c6 i ((halE i).mp hi)
      have h' : (if i = x then a_sum (f_z F) else st i) + (if i = x then ([] : List (Int32 × Nat)) else a_fl (f_z F) i).length ≤ a_sum (z_add (f_z F) x k v []) := this
      rw [if_neg e, if_neg e, hsum0] at h'
      rw [if_neg e, if_neg e]
      omega
  · intro i j hi q hq
    have hq' : (if i = x then f_pu F else a_fl (f_z F) i)[j]? = some q := hq
    show layf (Md_features o.2).2 (a_sum (f_z F)) ((f_pu F).map Prod.fst) ((if i = x then a_sum (f_z F) else st i) + j) = q.1 ∧ layf (Md_parts o.2).2 (a_sum (f_z F)) ((f_pu F).map (fun q => nI q.2)) ((if i = x then a_sum (f_z F) else st i) + j) = nI q.2
    by_cases e : i = x
    · rw [if_pos e] at hq' ⊢
      have hj := (List.getElem?_eq_some_iff.mp hq').1
      unfold layf
      rw [List.length_map, List.length_map, if_pos (by omega), if_pos (by omega)]
      have ej : a_sum (f_z F) + j - a_sum (f_z F) = j := by omega
      rw [ej, List.getD_eq_getElem?_getD, List.getD_eq_getElem?_getD, List.getElem?_map, List.getElem?_map, hq']
      exact ⟨rfl, rfl⟩
    · rw [if_neg e] at hq' ⊢
      have hj := (List.getElem?_eq_some_iff.mp hq').1
      have h6' := c6 i ((halE i).mp hi)
      have h' : (if i = x then a_sum (f_z F) else st i) + (if i = x then ([] : List (Int32 × Nat)) else a_fl (f_z F) i).length ≤ a_sum (z_add (f_z F) x k v []) := h6'
      rw [if_neg e, if_neg e, hsum0] at h'
      rw [lay1 _ _ _ (by omega), lay1 _ _ _ (by omega)]
      have h7 := c7 i j ((halE i).mp hi) q (by show (if i = x then ([] : List (Int32 × Nat)) else a_fl (f_z F) i)[j]? = some q; rw [if_neg e]; exact hq')
      simp only [if_neg e] at h7
      exact h7
  · intro i j hi hj hij
    show (if i = x then a_sum (f_z F) else st i) + (if i = x then f_pu F else a_fl (f_z F) i).length ≤ (if j = x then a_sum (f_z F) else st j) ∨ (if j = x then a_sum (f_z F) else st j) + (if j = x then f_pu F else a_fl (f_z F) j).length ≤ (if i = x then a_sum (f_z F) else st i)
    have h6i := c6 i ((halE i).mp hi)
    have h6j := c6 j ((halE j).mp hj)
    have h8 := c8 i j ((halE i).mp hi) ((halE j).mp hj) hij
    have h6i' : (if i = x then a_sum (f_z F) else st i) + (if i = x then ([] : List (Int32 × Nat)) else a_fl (f_z F) i).length ≤ a_sum (z_add (f_z F) x k v []) := h6i
    have h6j' : (if j = x then a_sum (f_z F) else st j) + (if j = x then ([] : List (Int32 × Nat)) else a_fl (f_z F) j).length ≤ a_sum (z_add (f_z F) x k v []) := h6j
    have h8' : (if i = x then a_sum (f_z F) else st i) + (if i = x then ([] : List (Int32 × Nat)) else a_fl (f_z F) i).length ≤ (if j = x then a_sum (f_z F) else st j) ∨ (if j = x then a_sum (f_z F) else st j) + (if j = x then ([] : List (Int32 × Nat)) else a_fl (f_z F) j).length ≤ (if i = x then a_sum (f_z F) else st i) := h8
    rw [hsum0] at h6i' h6j'
    by_cases e : i = x
    · have e2 : j ≠ x := fun q => hij (e.trans q.symm)
      rw [if_pos e, if_pos e, if_neg e2, if_neg e2]
      rw [if_neg e2, if_neg e2] at h6j'
      exact Or.inr h6j'
    · by_cases e2 : j = x
      · rw [if_neg e, if_neg e, if_pos e2, if_pos e2]
        rw [if_neg e, if_neg e] at h6i'
        exact Or.inl h6i'
      · rw [if_neg e, if_neg e, if_neg e2, if_neg e2] at h8' ⊢
        exact h8'
  · intro i hi
    exact g3 i ((halE i).mp hi)
  · refine ⟨fun i hi => g4.1 i ((halE i).mp hi), fun r hr hrl hrv => ?_⟩
    have := g4.2 r ((halE r).mp hr) hrl (fun j hj hjl => hrv j ((halE j).mpr hj) hjl)
    exact ⟨fun ⟨j, a1, a2, a3⟩ => this.mp ⟨j, (halE j).mp a1, a2, a3⟩, fun q => (this.mpr q).elim (fun j w => ⟨j, (halE j).mpr w.1, w.2.1, w.2.2⟩)⟩
  · exact ⟨by show Md_touches o.2 = _; rw [e6]; exact h6.1, h6.2.1, fun k y hy => by show (Md_touched o.2).2 k = _; rw [e5]; exact h6.2.2 k y hy⟩
  · show 0 + (0 + 0) + 2 * LMd m ≤ 2 * ((Md_written o.2).1 + (Md_other o.2).1)
    rw [e7, e8]
    unfold LMd
    omega
