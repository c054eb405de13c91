/-! the reference writes what it reaches -/
abbrev Md_set_WS (m : S_Md) (nb pl wr : Ar) (le : Int32) : S_Md := (Md_kinds m, Md_values m, Md_firsts m, Md_manies m, Md_said m, Md_marked m, Md_leaders m, Md_trial m, Md_shown m, Md_end m, Md_nodes m, Md_features m, Md_parts m, Md_fields m, Md_pushedFeatures m, Md_pushedParts m, Md_pushed m, Md_touched m, Md_touches m, Md_reached m, Md_blocks m, nb, pl, wr, Md_other m, le)
def HW (W : List Int32) (wr : Ar) : Prop := (∀ k v, W[k]? = some v → wr.2 k = v) ∧ W.length ≤ wr.1 ∧ 256 ≤ wr.1 ∧ wr.1 ≤ 16384
def HM (N : Nat) (M : List Nat) (nb pl : Nat → Int32) : Prop := (∀ k c, M[k]? = some c → nb k = nI c) ∧ (∀ c, c < N → (c ∈ M → pl c = nI (M.idxOf c)) ∧ (c ∉ M → pl c = -1)) ∧ M.Nodup ∧ ∀ c ∈ M, c < N
theorem snoc_at {α : Type} {W : List α} {v r : α} {k : Nat} (h : (W ++ [v])[k]? = some r) : W[k]? = some r ∨ (k = W.length ∧ r = v) := by
  by_cases hk : k < W.length
  · rw [List.getElem?_append_left hk] at h
    exact Or.inl h
  · rw [List.getElem?_append_right (by omega)] at h
    have hl := (List.getElem?_eq_some_iff.mp h).1
    have : k - W.length = 0 := by simpa using hl
    rw [this] at h
    cases h
    exact Or.inr ⟨by omega, rfl⟩
theorem r_say {n : Nat} {m : S_Md} {nb pl wr : Ar} {W : List Int32} (h : HW W wr) (hl : W.length < 4096) (v : Int32) : xo (m_Md_say n (Md_set_WS m nb pl wr (nI W.length)) v) (fun o c => ∃ wr2 : Ar, o = Md_set_WS m nb pl wr2 (nI (W ++ [v]).length) ∧ HW (W ++ [v]) wr2 ∧ c + 2 * wr.1 ≤ 2 * wr2.1) := by
  obtain ⟨h1, h2, h3, h4⟩ := h
  have el : (W ++ [v]).length = W.length + 1 := by rw [List.length_append]; rfl
  unfold m_Md_say
  refine xo_eq W.length wr.1 rfl rfl (by omega) (by omega) (fun e => ?_) (fun e => ?_)
  · refine xo_na (2 * W.length) (nI_dbl _) (by omega) (by omega) ?_
    refine xo_cp 0 0 W.length nI0 nI0 rfl (by show 0 + W.length ≤ wr.1; omega) (by show 0 + W.length ≤ 2 * W.length; omega) (by omega) (by omega) ?_
    refine xo_wr W.length rfl (by show W.length < 2 * W.length; omega) (by omega) ?_
    refine xo_p ⟨(2 * W.length, upd (va_cpy wr.2 (fun _ => 0) 0 0 W.length) W.length v), ?_, ⟨fun k r hk => ?_, by show (W ++ [v]).length ≤ 2 * W.length; omega, by show 256 ≤ 2 * W.length; omega, by show 2 * W.length ≤ 16384; omega⟩, by show 2 * W.length + 0 + 2 * wr.1 ≤ 2 * (2 * W.length); omega⟩
    · show Md_set_WS m nb pl _ (nI W.length + 1) = _
      rw [nI_1, el]
    · show upd (va_cpy wr.2 (fun _ => 0) 0 0 W.length) W.length v k = r
      rw [upd_at]
      rcases snoc_at hk with w | ⟨rfl, rfl⟩
      · have hkl := (List.getElem?_eq_some_iff.mp w).1
        rw [if_neg (by omega), pk_cpy_in (by omega) (by omega), Nat.zero_add, Nat.sub_zero]
        exact h1 k r w
      · rw [if_pos rfl]
  · refine xo_wr W.length rfl (by show W.length < wr.1; omega) (by omega) ?_
    refine xo_p ⟨(wr.1, upd wr.2 W.length v), ?_, ⟨fun k r hk => ?_, by show (W ++ [v]).length ≤ wr.1; omega, h3, h4⟩, by show 0 + 2 * wr.1 ≤ 2 * wr.1; omega⟩
    · show Md_set_WS m nb pl _ (nI W.length + 1) = _
      rw [nI_1, el]
    · show upd wr.2 W.length v k = r
      rw [upd_at]
      rcases snoc_at hk with w | ⟨rfl, rfl⟩
      · have hkl := (List.getElem?_eq_some_iff.mp w).1
        rw [if_neg (by omega)]
        exact h1 k r w
      · rw [if_pos rfl]
theorem WS_L {m : S_Md} (hL : RL m) {nb pl : Nat → Int32} {wr : Ar} {le : Int32} {W : List Int32} (h : HW W wr) : RL (Md_set_WS m (32768, nb) (32768, pl) wr le) := ⟨hL.1, hL.2.1, ⟨hL.2.2.1.1, hL.2.2.1.2.1, hL.2.2.1.2.2.1, rfl, rfl⟩, ⟨h.2.2.1, h.2.2.2, hL.2.2.2.2.2⟩⟩
theorem HM_add {N : Nat} {M : List Nat} {nb pl : Nat → Int32} (h : HM N M nb pl) {c : Nat} (hc : c < N) (hn : c ∉ M) : HM N (M ++ [c]) (upd nb M.length (nI c)) (upd pl c (nI M.length)) := by
  obtain ⟨h1, h2, h3, h4⟩ := h
  have hi : (M ++ [c]).idxOf c = M.length := by
    rw [List.idxOf_append, if_neg hn, List.idxOf_cons_self, Nat.zero_add]
  refine ⟨fun k d hk => ?_, fun d hd => ⟨fun w => ?_, fun w => ?_⟩, ?_, fun d hd => ?_⟩
  · rw [upd_at]
    rcases snoc_at hk with w | ⟨rfl, rfl⟩
    · have := (List.getElem?_eq_some_iff.mp w).1
      rw [if_neg (by omega)]
      exact h1 k d w
    · rw [if_pos rfl]
  · rw [upd_at]
    by_cases e : d = c
    · subst e
      rw [if_pos rfl, hi]
    · rw [if_neg e]
      rcases List.mem_append.mp w with q | q
      · rw [idx_app q]; exact (h2 d hd).1 q
      · exact absurd (List.mem_singleton.mp q) e
  · rw [upd_at, if_neg (fun e : d = c => w (List.mem_append.mpr (Or.inr (List.mem_singleton.mpr e))))]
    exact (h2 d hd).2 (fun q => w (List.mem_append.mpr (Or.inl q)))
  · have := b_add_nd h3 c
    unfold b_add at this
    rw [if_neg hn] at this
    exact this
  · rcases List.mem_append.mp hd with q | q
    · exact h4 d q
    · rw [List.mem_singleton.mp q]; exact hc
theorem r_fldsL {n : Nat} (hn : 100000 ≤ n) {m : S_Md} {z : AS} {st : Nat → Nat} {R : List Nat} {B : Nat → Nat} (H : RC m z st R) (hBl : ∀ k r, R[k]? = some r → (Md_blocks m).2 k = nI (B r)) (hBn : ∀ r ∈ R, B r < R.length) {r b : Nat} (hr : r ∈ R) (hb : a_bd z r b) (y1 y2 y4 y5 : Int32) : ∀ (fuel k : Nat) (M : List Nat) (W : List Int32) (nb pl : Nat → Int32) (wr : Ar) (s : S_Md), (a_fl z b).length - k < fuel → k ≤ (a_fl z b).length → s = Md_set_WS m (32768, nb) (32768, pl) wr (nI W.length) → HW W wr → HM R.length M nb pl → (W ++ (b_flds M (((a_fl z b).map (fun q => (q.1, B (a_ld z q.2)))).drop k)).2).length ≤ 2560 → xo (L_Md_write_188 y1 y2 y4 y5 (nI b) n fuel (nI M.length) (nI k) s) (fun o c => ∃ (M2 : List Nat) (W2 : List Int32) (nb2 pl2 : Nat → Int32) (wr2 : Ar), M2 = (b_flds M (((a_fl z b).map (fun q => (q.1, B (a_ld z q.2)))).drop k)).1 ∧ W2 = W ++ (b_flds M (((a_fl z b).map (fun q => (q.1, B (a_ld z q.2)))).drop k)).2 ∧ o.1 = nI M2.length ∧ o.2.2 = Md_set_WS m (32768, nb2) (32768, pl2) wr2 (nI W2.length) ∧ HW W2 wr2 ∧ HM R.length M2 nb2 pl2 ∧ c + 2 * wr.1 ≤ 2 * wr2.1) := by
  obtain ⟨h1, h2, h3, h4, h5, h6, h7, h8, h9, h10⟩ := H
  have hbl := al_lt h3 hb.1
  have h6b := h2.2.2.2.2.2.2.1 b hb.1
  have hm1 : ∀ k, k < 2 ^ 31 → nI k ≠ -1 := fun k hk => nI_m1 hk
  intro fuel
  induction fuel with
  | zero => intro k M W nb pl wr s h; omega
  | succ fuel ih =>
    intro k M W nb pl wr s g1 g2 es hW hM hlen
    have hLs : RL s := by rw [es]; exact WS_L h1 hW
    have hZs : RZ s z st := by rw [es]; exact h2
    have hKs : RK s R B := by
      rw [es]
      refine ⟨h5, hBl, fun t ht => ?_, by omega⟩
      have := hBn t ht
      have := al_lt h3 (h7 t ht).1
      exact ⟨by omega, by omega⟩
    obtain ⟨l1, l2, l3, l4, l5, l6, l7, l8⟩ := r_lens hLs
    have l10 : (Md_blocks s).1 = 32768 := hLs.2.2.1.2.2.1
    have l11 : (Md_newBlocks s).1 = 32768 := hLs.2.2.1.2.2.2.1
    have l12 : (Md_places s).1 = 32768 := hLs.2.2.1.2.2.2.2
    have hML := nodup_len hM.2.2.1 hM.2.2.2
    rw [L_Md_write_188_s]
    refine xo_rd b rfl (by omega) (by omega) ?_
    rw [hZs.2.2.2.1 b hb.1]
    refine xo_le _ _ rfl rfl (by omega) (by omega) (fun q => ?_) (fun q => ?_)
    · have hd : ((a_fl z b).map (fun q => (q.1, B (a_ld z q.2)))).drop k = [] := List.drop_eq_nil_of_le (by rw [List.length_map]; omega)
      rw [hd]
      exact xo_p ⟨M, W, nb, pl, wr, rfl, (List.append_nil W).symm, rfl, es, hW, hM, by omega⟩
    · refine xo_rd b rfl (by omega) (by omega) ?_
      rw [hZs.2.1 b (by omega)]
      refine xo_if (fun e => ?_) (fun _ => ?_)
      · have := a_kd_3 h3 hb.1 e
        rw [this] at q
        exact absurd q (by simp)
      · have hqb : (a_fl z b)[k]? = some (a_fl z b)[k] := List.getElem?_eq_getElem q
        have hdr : ((a_fl z b).map (fun q => (q.1, B (a_ld z q.2)))).drop k = ((a_fl z b)[k].1, B (a_ld z (a_fl z b)[k].2)) :: ((a_fl z b).map (fun q => (q.1, B (a_ld z q.2)))).drop (k + 1) := by
          rw [List.drop_eq_getElem_cons (by rw [List.length_map]; exact q), List.getElem_map]
        rw [hdr] at hlen ⊢
        generalize (a_fl z b)[k] = qb at hqb hlen ⊢
        generalize ((a_fl z b).map (fun q => (q.1, B (a_ld z q.2)))) = fs at hlen ih ⊢
        have mb := List.mem_of_getElem? hqb
        have alb := (h3.2.2.2.2.1 b hb.1).2.2 qb mb
        have llb := al_lt h3 alb
        have hpR := h8 r b hr hb qb mb
        have hcN := hBn _ hpR
        refine xo_rd b rfl (by omega) (by omega) ?_
        rw [hZs.2.2.2.2.1 b hb.1 (ne_of_lt q), nI_add]
        refine xo_rd _ rfl (by omega) (by omega) ?_
        rw [(hZs.2.2.2.2.2.2.2.1 b k hb.1 qb hqb).2]
        refine xo_rd _ rfl (by omega) (by omega) ?_
        rw [hZs.2.2.2.2.2.1 _ alb]
        refine xo_b _ (r_placeOf (n := n) hn hLs hKs hpR y2) (fun o1 d1 w1 => ?_)
        obtain ⟨rfl, j1, rfl, -, j1l, j1b⟩ := w1
        refine xo_rd j1 rfl (by omega) (by omega) ?_
        rw [j1b]
        generalize B (a_ld z qb.2) = c at hcN hlen ⊢
        refine xo_rd c rfl (by omega) (by omega) ?_
        have hft := (hZs.2.2.2.2.2.2.2.1 b k hb.1 qb hqb).1
        have hfi := hZs.2.2.2.2.1 b hb.1 (ne_of_lt q)
        rw [b_flds_s] at hlen ⊢
        subst es
        have hpc := hM.2.1 c hcN
        by_cases hc : c ∈ M
        · have hadd : b_add M c = M := by unfold b_add; rw [if_pos hc]
          rw [hadd] at hlen ⊢
          have hil := List.idxOf_lt_length_of_mem hc
          have hne : ¬ ((Md_places (Md_set_WS m (32768, nb) (32768, pl) wr (nI W.length))).2 c = -1) := fun w => hm1 (M.idxOf c) (by omega) ((hpc.1 hc).symm.trans w)
          rw [if_neg hne]
          refine xo_rd b rfl (by omega) (by omega) ?_
          rw [hfi, nI_add]
          refine xo_rd _ rfl (by omega) (by omega) ?_
          rw [hft]
          have hlen' : W.length + 2 + (b_flds M (fs.drop (k + 1))).2.length ≤ 2560 := by
            rw [List.length_append] at hlen
            have : W.length + ((b_flds M (fs.drop (k + 1))).2.length + 1 + 1) ≤ 2560 := hlen
            omega
          refine xo_b _ (r_say (n := n) (m := m) (nb := (32768, nb)) (pl := (32768, pl)) hW (by omega) qb.1) (fun o2 d2 w2 => ?_)
          obtain ⟨wr2, rfl, hW2, e2⟩ := w2
          refine xo_rd c rfl (by show c < 32768; omega) (by omega) ?_
          have el2 : (W ++ [qb.1]).length = W.length + 1 := by rw [List.length_append]; rfl
          refine xo_b _ (r_say (n := n) (m := m) (nb := (32768, nb)) (pl := (32768, pl)) hW2 (by omega) (pl c)) (fun o3 d3 w3 => ?_)
          obtain ⟨wr3, rfl, hW3, e3⟩ := w3
          rw [nI_1]
          have eW : (W ++ [qb.1]) ++ [pl c] = W ++ [qb.1, nI (M.idxOf c)] := by
            rw [hpc.1 hc, List.append_assoc]; rfl
          have hh := ih (k + 1) M ((W ++ [qb.1]) ++ [pl c]) nb pl wr3 _ (by omega) (by omega) rfl hW3 hM (by
            rw [eW, List.length_append, List.length_append]
            show W.length + 2 + _ ≤ 2560
            exact hlen')
          refine xo_m hh (fun o d w => ?_)
          obtain ⟨M2, W2, nb2, pl2, wr4, a1, a2, a3, a4, a5, a6, a7⟩ := w
          refine ⟨M2, W2, nb2, pl2, wr4, a1, ?_, a3, a4, a5, a6, by omega⟩
          rw [a2, eW, List.append_assoc]
          rfl
        · have hadd : b_add M c = M ++ [c] := by unfold b_add; rw [if_neg hc]
          have hidx : (M ++ [c]).idxOf c = M.length := by
            rw [List.idxOf_append, if_neg hc, List.idxOf_cons_self, Nat.zero_add]
          rw [hadd, hidx] at hlen ⊢
          have hM2 := HM_add hM hcN hc
          have hML2 := nodup_len hM2.2.2.1 hM2.2.2.2
          have elM : (M ++ [c]).length = M.length + 1 := by rw [List.length_append]; rfl
          rw [if_pos (show (Md_places (Md_set_WS m (32768, nb) (32768, pl) wr (nI W.length))).2 c = -1 from hpc.2 hc)]
          refine xo_wr c rfl (by omega) (by omega) ?_
          refine xo_wr M.length rfl (by omega) (by omega) ?_
          refine xo_rd b rfl (by omega) (by omega) ?_
          rw [hfi, nI_add]
          refine xo_rd _ rfl (by omega) (by omega) ?_
          rw [hft]
          have hlen' : W.length + 2 + (b_flds (M ++ [c]) (fs.drop (k + 1))).2.length ≤ 2560 := by
            rw [List.length_append] at hlen
            have : W.length + ((b_flds (M ++ [c]) (fs.drop (k + 1))).2.length + 1 + 1) ≤ 2560 := hlen
            omega
          refine xo_b _ (r_say (n := n) (m := m) (nb := (32768, upd nb M.length (nI c))) (pl := (32768, upd pl c (nI M.length))) hW (by omega) qb.1) (fun o2 d2 w2 => ?_)
          obtain ⟨wr2, rfl, hW2, e2⟩ := w2
          refine xo_rd c rfl (by show c < 32768; omega) (by omega) ?_
          have el2 : (W ++ [qb.1]).length = W.length + 1 := by rw [List.length_append]; rfl
          refine xo_b _ (r_say (n := n) (m := m) (nb := (32768, upd nb M.length (nI c))) (pl := (32768, upd pl c (nI M.length))) hW2 (by omega) (upd pl c (nI M.length) c)) (fun o3 d3 w3 => ?_)
          obtain ⟨wr3, rfl, hW3, e3⟩ := w3
          rw [nI_1, nI_1]
          have eW : (W ++ [qb.1]) ++ [upd pl c (nI M.length) c] = W ++ [qb.1, nI M.length] := by
            rw [upd_at, if_pos rfl, List.append_assoc]; rfl
          have hh := ih (k + 1) (M ++ [c]) ((W ++ [qb.1]) ++ [upd pl c (nI M.length) c]) (upd nb M.length (nI c)) (upd pl c (nI M.length)) wr3 _ (by omega) (by omega) rfl hW3 hM2 (by
            rw [eW, List.length_append, List.length_append]
            show W.length + 2 + _ ≤ 2560
            exact hlen')
          rw [elM] at hh
          refine xo_m hh (fun o d w => ?_)
          obtain ⟨M2, W2, nb2, pl2, wr4, a1, a2, a3, a4, a5, a6, a7⟩ := w
          refine ⟨M2, W2, nb2, pl2, wr4, a1, ?_, a3, a4, a5, a6, by omega⟩
          rw [a2, eW, List.append_assoc]
          rfl
