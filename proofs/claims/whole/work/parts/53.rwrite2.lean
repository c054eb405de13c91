/-! write, to its end -/
theorem r_findL {n : Nat} {s : S_Md} {R : List Nat} {B : Nat → Nat} (hL : RL s) (hK : RK s R B) {k c : Nat} (hkl : k < 32768) (hk : (Md_newBlocks s).2 k = nI c) {r0 i0 : Nat} (hr0 : R[i0]? = some r0) (hc : B r0 = c) (y1 y2 y3 : Int32) : ∀ (fuel i : Nat), i0 - i < fuel → i ≤ i0 → xo (L_Md_write_74 y1 y2 y3 (nI k) s n fuel (nI i)) (fun o d => d = 0 ∧ ∃ j r, o = nI j ∧ R[j]? = some r ∧ B r = c) := by
  have l10 : (Md_blocks s).1 = 32768 := hL.2.2.1.2.2.1
  have l11 : (Md_newBlocks s).1 = 32768 := hL.2.2.1.2.2.2.1
  obtain ⟨h1, h2, h3, h4⟩ := hK
  have hi0 := (List.getElem?_eq_some_iff.mp hr0).1
  have hcl := (h3 r0 (List.mem_of_getElem? hr0)).2
  intro fuel
  induction fuel with
  | zero => intro i h; omega
  | succ fuel ih =>
    intro i g1 g2
    rw [L_Md_write_74_s]
    have hi : R[i]? = some (R[i]'(by omega)) := List.getElem?_eq_getElem (by omega)
    generalize R[i]'(by omega) = r at hi
    have hrl := (h3 r (List.mem_of_getElem? hi)).2
    refine xo_rd i rfl (by omega) (by omega) ?_
    rw [h2 i r hi]
    refine xo_rd k rfl (by omega) (by omega) ?_
    rw [hk]
    refine xo_eq (B r) c rfl rfl (by omega) (by omega) (fun e => ?_) (fun e => ?_)
    · exact xo_p ⟨rfl, i, r, rfl, hi, e⟩
    · rw [nI_1]
      have : i ≠ i0 := fun w => by
        rw [w, hr0] at hi
        cases hi
        exact e hc
      exact ih (i + 1) (by omega) (by omega)
theorem r_writeL {n : Nat} (hn : 100000 ≤ n) {m : S_Md} {z : AS} {st : Nat → Nat} {nd : Nat → Prop} {x : Nat} {R : List Nat} {B : Nat → Nat} (H : RC m z st R) (hD : RD m z nd) (hS : SD z x R) (hC : CUT z R B) (hBl : ∀ k r, R[k]? = some r → (Md_blocks m).2 k = nI (B r)) (y1 y2 : Int32) : ∀ (fuel k : Nat) (M : List Nat) (W : List Int32) (nb pl : Nat → Int32) (wr : Ar) (s : S_Md), R.length < fuel + k → k ≤ M.length → s = Md_set_WS m (32768, nb) (32768, pl) wr (nI W.length) → HW W wr → HM R.length M nb pl → (∀ c ∈ M, b_in R B c) → (W ++ (b_run (DT z nd R B) fuel k M).2).length ≤ 2560 → xo (L_Md_write_65 y1 y2 n fuel (nI M.length) (nI k) s) (fun o c => ∃ (W2 : List Int32) (nb2 pl2 : Nat → Int32) (wr2 : Ar), W2 = W ++ (b_run (DT z nd R B) fuel k M).2 ∧ o.2.2 = Md_set_WS m (32768, nb2) (32768, pl2) wr2 (nI W2.length) ∧ HW W2 wr2 ∧ c + 2 * wr.1 ≤ 2 * wr2.1) := by
  have H0 := H
  obtain ⟨h1, h2, h3, h4, h5, h6, h7, h8, h9, h10⟩ := H
  intro fuel
  induction fuel with
  | zero =>
    intro k M W nb pl wr s g1 g2 es hW hM
    have := nodup_len hM.2.2.1 hM.2.2.2
    omega
  | succ fuel ih =>
    intro k M W nb pl wr s g1 g2 es hW hM hin hlen
    have hML := nodup_len hM.2.2.1 hM.2.2.2
    rw [L_Md_write_65_s]
    refine xo_le M.length k rfl rfl (by omega) (by omega) (fun q => ?_) (fun q => ?_)
    · have hn' : M[k]? = none := List.getElem?_eq_none_iff.mpr q
      rw [b_run_n hn']
      exact xo_p ⟨W, nb, pl, wr, (List.append_nil W).symm, es, hW, by omega⟩
    · have hc : M[k]? = some M[k] := List.getElem?_eq_getElem q
      generalize M[k] = c at hc
      obtain ⟨r0, hr0, ec0⟩ := hin c (List.mem_of_getElem? hc)
      obtain ⟨i0, hi0⟩ := List.getElem?_of_mem hr0
      have hi0l := (List.getElem?_eq_some_iff.mp hi0).1
      have hLs : RL s := by rw [es]; exact WS_L h1 hW
      have hZs : RZ s z st := by rw [es]; exact h2
      have hDs : RD s z nd := by rw [es]; exact hD
      have hKs : RK s R B := by
        rw [es]
        refine ⟨h5, hBl, fun t ht => ?_, by omega⟩
        have := hC.1 t ht
        have := al_lt h3 (h7 t ht).1
        exact ⟨by omega, by omega⟩
      have hkc : (Md_newBlocks s).2 k = nI c := by rw [es]; exact hM.1 k c hc
      have hf := r_findL (n := n) hLs hKs (by omega) hkc hi0 ec0 y1 y2 (nI M.length) n 0 (by omega) (Nat.zero_le _)
      rw [← nI0] at hf
      refine xo_b _ hf (fun o1 d1 w1 => ?_)
      obtain ⟨rfl, j, r, rfl, hj, eB⟩ := w1
      have hjl := (List.getElem?_eq_some_iff.mp hj).1
      have hr := List.mem_of_getElem? hj
      have har := h7 r hr
      have l9 : (Md_reached s).1 = 32768 := hLs.2.2.1.2.1
      refine xo_rd j rfl (by omega) (by omega) ?_
      rw [hKs.1 j r hj]
      refine xo_b _ (r_meant (n := n) hn hLs hZs h3 h4.1 har.1) (fun o2 d2 w2 => ?_)
      obtain ⟨rfl, b, hb, rfl⟩ := w2
      have hbl := al_lt h3 hb.1
      have hdt := DT_eq (nd := nd) h3 hS hC hr hb
      rw [eB] at hdt
      rw [b_run_s hc, hdt] at hlen ⊢
      have hfl : (a_fl z b).length ≤ 512 := by
        have h1 := sumf_mono (f := fun i => (a_fl z i).length) (show b + 1 ≤ a_t z from hbl)
        rw [sumf_s] at h1
        have h2 : sumf (fun i => (a_fl z i).length) b + (a_fl z b).length ≤ a_sum z := h1
        omega
      obtain ⟨fs, efs⟩ : ∃ fs, fs = (a_fl z b).map (fun q => (q.1, B (a_ld z q.2))) := ⟨_, rfl⟩
      have hdat : b_dat z nd B r b = (a_kd z b, (if a_kd z b = 0 then (if pb (a_nd z nd r) then 1 else 0) else a_vl z b), fs) := by rw [efs]; rfl
      have hfsl : fs.length = (a_fl z b).length := by rw [efs, List.length_map]
      rw [hdat] at hlen ⊢
      have hlen' : W.length + 3 + (b_flds M fs).2.length + (b_run (DT z nd R B) fuel (k + 1) (b_flds M fs).1).2.length ≤ 2560 := by
        rw [List.length_append] at hlen
        have : W.length + (((b_flds M fs).2 ++ (b_run (DT z nd R B) fuel (k + 1) (b_flds M fs).1).2).length + 1 + 1 + 1) ≤ 2560 := hlen
        rw [List.length_append] at this
        omega
      obtain ⟨l1, l2, l3, l4, l5, l6, l7, l8⟩ := r_lens hLs
      refine xo_rd b rfl (by omega) (by omega) ?_
      rw [hZs.2.1 b (by omega)]
      subst es
      refine xo_b _ (r_say (n := n) (m := m) (nb := (32768, nb)) (pl := (32768, pl)) hW (by omega) (a_kd z b)) (fun o3 d3 w3 => ?_)
      obtain ⟨wr3, rfl, hW3, e3⟩ := w3
      have el3 : (W ++ [a_kd z b]).length = W.length + 1 := by rw [List.length_append]; rfl
      obtain ⟨m1, m2, m3, m4, -⟩ := r_lens h1
      refine xo_rd b rfl (by show b < (Md_kinds m).1; omega) (by omega) ?_
      rw [show (Md_kinds (Md_set_WS m (32768, nb) (32768, pl) wr3 (nI (W ++ [a_kd z b]).length))).2 b = a_kd z b from hZs.2.1 b (by omega)]
      refine xo_b (fun o d => d = 0 ∧ o = (if a_kd z b = 0 then (if pb (a_nd z nd r) then 1 else 0) else a_vl z b)) ?_ (fun o4 d4 w4 => ?_)
      · refine xo_if (fun e0 => ?_) (fun e0 => ?_)
        · rw [if_pos e0]
          have hL3 : RL (Md_set_WS m (32768, nb) (32768, pl) wr3 (nI (W ++ [a_kd z b]).length)) := WS_L h1 hW3
          refine xo_b _ (r_isNeeded (n := n) (nd := nd) (st := st) hn hL3 h2 hD h3 h4.1 hb.1) (fun o5 d5 w5 => ?_)
          obtain ⟨rfl, w5⟩ := w5
          have e6 : a_nd z nd b ↔ a_nd z nd r := by
            unfold a_nd
            rw [hb.2.1]
          rcases w5 with ⟨rfl, w5⟩ | ⟨rfl, w5⟩
          · rw [if_neg (by decide), pb_t (e6.mp w5)]
            exact xo_p ⟨rfl, rfl⟩
          · rw [if_pos rfl, pb_f (fun q => w5 (e6.mpr q))]
            exact xo_p ⟨rfl, rfl⟩
        · rw [if_neg e0]
          refine xo_rd b rfl (by show b < (Md_values m).1; omega) (by omega) (xo_p ⟨rfl, ?_⟩)
          exact h2.2.2.1 b hb.1
      · obtain ⟨rfl, w4⟩ := w4
        rw [← w4] at hlen ⊢
        refine xo_b _ (r_say (n := n) (m := m) (nb := (32768, nb)) (pl := (32768, pl)) hW3 (by omega) o4) (fun o5 d5 w5 => ?_)
        obtain ⟨wr5, rfl, hW5, e5⟩ := w5
        have el5 : ((W ++ [a_kd z b]) ++ [o4]).length = W.length + 2 := by rw [List.length_append, el3]; rfl
        refine xo_rd b rfl (by show b < (Md_kinds m).1; omega) (by omega) ?_
        rw [show (Md_kinds (Md_set_WS m (32768, nb) (32768, pl) wr5 (nI ((W ++ [a_kd z b]) ++ [o4]).length))).2 b = a_kd z b from hZs.2.1 b (by omega)]
        refine xo_b (fun o d => d = 0 ∧ o = nI fs.length) ?_ (fun o6 d6 w6 => ?_)
        · refine xo_if (fun e0 => ?_) (fun e0 => ?_)
          · refine xo_rd b rfl (by show b < (Md_manies m).1; omega) (by omega) (xo_p ⟨rfl, ?_⟩)
            rw [hfsl]
            exact h2.2.2.2.1 b hb.1
          · have h03 : a_fl z b = [] := by
              refine a_kd_3 h3 hb.1 ?_
              have h5' := h3.2.1 b hb.1
              rcases h5' with w | w | w | w | w <;> rw [w] at e0 ⊢ <;> first | decide | exact absurd (by decide) e0
            refine xo_p ⟨rfl, ?_⟩
            rw [hfsl, h03]
            exact nI0
        · obtain ⟨rfl, rfl⟩ := w6
          refine xo_b _ (r_say (n := n) (m := m) (nb := (32768, nb)) (pl := (32768, pl)) hW5 (by omega) (nI fs.length)) (fun o7 d7 w7 => ?_)
          obtain ⟨wr7, rfl, hW7, e7⟩ := w7
          have eW : ((W ++ [a_kd z b]) ++ [o4]) ++ [nI fs.length] = W ++ [a_kd z b, o4, nI fs.length] := by
            rw [List.append_assoc, List.append_assoc]; rfl
          have el7 : (W ++ [a_kd z b, o4, nI fs.length]).length = W.length + 3 := by rw [List.length_append]; rfl
          rw [eW] at hW7
          rw [eW]
          generalize eW2 : W ++ [a_kd z b, o4, nI fs.length] = W7 at hW7 el7
          have hfl2 := r_fldsL (n := n) hn H0 hBl hC.1 hr hb y1 y2 (nI k) (nI j) n 0 M W7 nb pl wr7 _ (by omega) (Nat.zero_le _) rfl hW7 hM (by
            rw [List.drop_zero, ← efs, List.length_append]
            omega)
          rw [← nI0] at hfl2
          refine xo_b _ hfl2 (fun o8 d8 w8 => ?_)
          obtain ⟨M2, W8, nb8, pl8, wr8, a1, a2, a3, a4, a5, a6, a7⟩ := w8
          rw [List.drop_zero, ← efs] at a1 a2
          obtain ⟨⟨L, p1⟩, p2, p3, p4, p5⟩ := b_flds_ok fs M
          rw [a3, a4, nI_1]
          have hh := ih (k + 1) M2 W8 nb8 pl8 wr8 _ (by omega) (by rw [a1, p1, List.length_append]; omega) rfl a5 a6 (fun i hi => by
            rw [a1] at hi
            rcases p3 i hi with w | ⟨p, w, e⟩
            · exact hin i w
            · rw [efs] at w
              obtain ⟨q', hq', rfl⟩ := List.mem_map.mp w
              exact ⟨_, h8 r b hr hb q' hq', e.symm⟩) (by
            rw [a1, a2, List.length_append, List.length_append]
            omega)
          refine xo_m hh (fun o d w => ?_)
          obtain ⟨W9, nb9, pl9, wr9, b1, b2, b3, b4⟩ := w
          refine ⟨W9, nb9, pl9, wr9, ?_, b2, b3, by omega⟩
          rw [b1, a2, a1, ← eW2, List.append_assoc, List.append_assoc]
          rfl
theorem r_noneL {n : Nat} {m : S_Md} {N : Nat} (hN : N ≤ 512) {nb wr : Ar} {le : Int32} (y1 : Int32) : ∀ (fuel i : Nat) (s : S_Md) (pl : Nat → Int32), N - i < fuel → i ≤ N → s = Md_set_WS m nb (32768, pl) wr le → (∀ k, k < i → pl k = -1) → xo (L_Md_write_18 y1 (nI N) n fuel (nI i) s) (fun o c => c = 0 ∧ ∃ pl : Nat → Int32, o.2 = Md_set_WS m nb (32768, pl) wr le ∧ ∀ k, k < N → pl k = -1) := by
  intro fuel
  induction fuel with
  | zero => intro i s pl h; omega
  | succ fuel ih =>
    intro i s pl g1 g2 es g3
    rw [L_Md_write_18_s]
    refine xo_le N i rfl rfl (by omega) (by omega) (fun q => ?_) (fun q => ?_)
    · have : i = N := by omega
      subst this
      exact xo_p ⟨rfl, pl, es, g3⟩
    · subst es
      refine xo_wr i rfl (by show i < 32768; omega) (by omega) ?_
      rw [nI_1]
      refine xo_m (ih (i + 1) _ (upd pl i (-1)) (by omega) (by omega) rfl (fun k hk => ?_)) (fun o c w => w)
      rw [upd_at]
      by_cases e : k = i
      · rw [if_pos e]
      · rw [if_neg e]; exact g3 k (by omega)
abbrev Md_set_LK (m : S_Md) (re bl nb pl wr ot : Ar) (le : Int32) : S_Md := (Md_kinds m, Md_values m, Md_firsts m, Md_manies m, Md_said m, Md_marked m, Md_leaders m, Md_trial m, Md_shown m, Md_end m, Md_nodes m, Md_features m, Md_parts m, Md_fields m, Md_pushedFeatures m, Md_pushedParts m, Md_pushed m, Md_touched m, Md_touches m, re, bl, nb, pl, wr, ot, le)
theorem r_write {n : Nat} (hn : 100000 ≤ n) {m : S_Md} {z : AS} {st : Nat → Nat} {nd : Nat → Prop} {x : Nat} (hL : RL m) (hZ : RZ m z st) (hD : RD m z nd) (hw : a_wf z) (ht : a_t z ≤ 512) (hs : a_sum z ≤ 512) (hx : al z x) : xo (m_Md_write n m (nI x)) (fun o c => ∃ (R : List Nat) (B : Nat → Nat) (re bl nb pl : Nat → Int32) (wr : Ar) (W : List Int32), o = Md_set_LK m (32768, re) (32768, bl) (32768, nb) (32768, pl) wr (Md_other m) (nI W.length) ∧ HW W wr ∧ SD z x R ∧ CUT z R B ∧ R.length < n ∧ W = (b_wd z nd x R B n).2 ∧ W.length ≤ 2560 ∧ c + 2 * (Md_written m).1 ≤ 2 * wr.1) := by
  unfold m_Md_write
  refine xo_b _ (r_reach (n := n) hn hL hZ hw ht hs hx) (fun o1 c1 w1 => ?_)
  obtain ⟨rfl, R, e1, hR, hcl, hRl⟩ := w1
  have hLs := RR_L hR hL
  obtain ⟨⟨g, es, hg⟩, hnd, hal, h0⟩ := hR
  have hR0 : 0 < R.length := (List.getElem?_eq_some_iff.mp h0).1
  have hin0 := List.mem_of_getElem? h0
  rw [es] at hLs
  have H : RC (Md_set_reached m (32768, g)) z st R := ⟨hLs, hZ, hw, ⟨ht, hs⟩, hg, hnd, fun r hr => ⟨(hal r hr).1, (hal r hr).2.1⟩, hcl, hRl, hR0⟩
  have hS : SD z x R := ⟨hal, hin0, hcl, hnd, hRl⟩
  rw [e1, es]
  refine xo_b _ (r_cut (n := n) hn H) (fun o2 c2 w2 => ?_)
  obtain ⟨rfl, B, bl, nb, rfl, hB, hC⟩ := w2
  have hL2 : RL (Md_set_BN (Md_set_reached m (32768, g)) (32768, bl) (32768, nb)) := BN_L hLs
  have H2 : RC (Md_set_BN (Md_set_reached m (32768, g)) (32768, bl) (32768, nb)) z st R := ⟨hL2, hZ, hw, ⟨ht, hs⟩, hg, hnd, fun r hr => ⟨(hal r hr).1, (hal r hr).2.1⟩, hcl, hRl, hR0⟩
  have lp : (Md_places m).1 = 32768 := hL.2.2.1.2.2.2.2
  have hh := r_noneL (n := n) (m := Md_set_BN (Md_set_reached m (32768, g)) (32768, bl) (32768, nb)) (N := R.length) (by omega) (nb := (32768, nb)) (wr := Md_written m) (le := 0) (nI x) n 0 (Md_set_WS (Md_set_BN (Md_set_reached m (32768, g)) (32768, bl) (32768, nb)) (32768, nb) (Md_places m) (Md_written m) 0) (Md_places m).2 (by omega) (Nat.zero_le _) (by rw [← lp]) (fun k hk => by omega)
  rw [← nI0] at hh
  refine xo_b _ hh (fun o3 c3 w3 => ?_)
  obtain ⟨rfl, pl, e3, hpl⟩ := w3
  rw [e3]
  have hb0 := hB 0 _ h0
  have hc0 := hC.1 _ hin0
  refine xo_rd 0 nI0 (by show 0 < 32768; omega) (by omega) ?_
  rw [show (Md_blocks (Md_set_WS (Md_set_BN (Md_set_reached m (32768, g)) (32768, bl) (32768, nb)) (32768, nb) (32768, pl) (Md_written m) 0)).2 0 = nI (B (a_ld z x)) from hb0]
  refine xo_wr 0 nI0 (by show 0 < 32768; omega) (by omega) ?_
  refine xo_rd 0 nI0 (by show 0 < 32768; omega) (by omega) ?_
  rw [show (Md_blocks (Md_set_WS (Md_set_BN (Md_set_reached m (32768, g)) (32768, bl) (32768, nb)) (32768, nb) (32768, pl) (Md_written m) 0)).2 0 = nI (B (a_ld z x)) from hb0]
  refine xo_wr (B (a_ld z x)) rfl (by show B (a_ld z x) < 32768; omega) (by omega) ?_
  have hW0 : HW [] (Md_written m) := ⟨fun k v hk => absurd hk (by simp), Nat.zero_le _, hL.2.2.2.1, hL.2.2.2.2.1⟩
  have hM00 : HM R.length [] nb pl := ⟨fun k c hk => absurd hk (by simp), fun c hc => ⟨fun w => absurd w List.not_mem_nil, fun _ => hpl c hc⟩, List.nodup_nil, fun c hc => absurd hc List.not_mem_nil⟩
  have hM0 := HM_add hM00 hc0 List.not_mem_nil
  have hlen := b_wd_len (nd := nd) hw ht hs hS hC (n := n) (by omega)
  have hwl := r_writeL (n := n) (nd := nd) (x := x) hn H2 hD hS hC hB (nI x) (nI R.length) n 0 [B (a_ld z x)] [] (upd nb 0 (nI (B (a_ld z x)))) (upd pl (B (a_ld z x)) (nI 0)) (Md_written m) _ (by omega) (Nat.zero_le _) rfl hW0 hM0 (fun c hc => by
    rw [List.mem_singleton] at hc
    exact ⟨_, hin0, hc.symm⟩) hlen.1
  rw [show nI ([B (a_ld z x)] : List Nat).length = (1 : Int32) from nI1.symm, ← nI0] at hwl
  refine xo_b _ hwl (fun o4 c4 w4 => ?_)
  obtain ⟨W2, nb2, pl2, wr2, a1, a2, a3, a4⟩ := w4
  have a1' : W2 = (b_wd z nd x R B n).2 := a1
  refine xo_p ⟨R, B, g, bl, nb2, pl2, wr2, W2, a2, a3, hS, hC, by omega, a1', by rw [a1']; exact hlen.1, ?_⟩
  omega
