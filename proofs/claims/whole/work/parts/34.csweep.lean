/-! the class sweeps -/
abbrev Fi_set_N (s : S_Fi) (a b : Ar) (k : Int32) : S_Fi := (Fi_features s, Fi_parts s, Fi_used s, a, b, k)
theorem o_moveL {n : Nat} {s0 : S_Fi} {L : Ar} {l : List (Int32 × Nat)} {ld : Nat → Nat} {c p lf lp : Nat} {nf np : Nat → Int32} (hc : c + l.length ≤ (Fi_features s0).1) (hc2 : c + l.length ≤ (Fi_parts s0).1) (hp : p + l.length ≤ lf) (hp2 : p + l.length ≤ lp) (hcb : c + l.length ≤ 4096) (hpb : p + l.length ≤ 4096) (hl : ∀ k q, l[k]? = some q → (Fi_features s0).2 (c + k) = q.1 ∧ (Fi_parts s0).2 (c + k) = nI q.2 ∧ q.2 < L.1 ∧ q.2 < 4096 ∧ L.2 q.2 = nI (ld q.2)) (u : Int32) : ∀ (fuel i : Nat) (s : S_Fi), l.length - i < fuel → i ≤ l.length → s = Fi_set_N s0 (lf, layf nf p ((l.take i).map Prod.fst)) (lp, layf np p ((l.take i).map (fun q => nI (ld q.2)))) u → xo (L_Fi_moveOver_9 (nI c) (nI l.length) (nI p) L n fuel (nI i) s) (fun o d => d = 0 ∧ o.2 = Fi_set_N s0 (lf, layf nf p (l.map Prod.fst)) (lp, layf np p (l.map (fun q => nI (ld q.2)))) u) := by
  intro fuel
  induction fuel with
  | zero => intro i s h; omega
  | succ fuel ih =>
    intro i s h1 h2 h3
    subst h3
    rw [L_Fi_moveOver_9_s]
    refine xo_le _ _ rfl rfl (by omega) (by omega) (fun q => ?_) (fun q => ?_)
    · have e : i = l.length := by omega
      subst e
      refine xo_p ⟨rfl, ?_⟩
      rw [List.take_length]
    · have hg : l[i]? = some l[i] := List.getElem?_eq_getElem q
      obtain ⟨g1, g2, g3, g4, g5⟩ := hl i _ hg
      rw [nI_add, nI_add]
      refine xo_rd (c + i) rfl (by show c + i < (Fi_features s0).1; omega) (by omega) ?_
      refine xo_wr (p + i) rfl (by show p + i < lf; omega) (by omega) ?_
      refine xo_rd (c + i) rfl (by show c + i < (Fi_parts s0).1; omega) (by omega) ?_
      show xo (xm_rd L ((Fi_parts s0).2 (c + i)) _) _
      rw [g2]
      refine xo_rd l[i].2 rfl g3 (by omega) ?_
      refine xo_wr (p + i) rfl (by show p + i < lp; omega) (by omega) ?_
      rw [nI_1]
      refine ih (i + 1) _ (by omega) (by omega) ?_
      have et : l.take (i + 1) = l.take i ++ [l[i]] := by rw [List.take_add_one, hg]; rfl
      have el : (l.take i).length = i := by rw [List.length_take]; omega
      have f1 : upd (layf nf p ((l.take i).map Prod.fst)) (p + i) ((Fi_features s0).2 (c + i)) = layf nf p ((l.take (i + 1)).map Prod.fst) := by
        have := layf_snoc nf p ((l.take i).map Prod.fst) ((Fi_features s0).2 (c + i))
        rw [List.length_map, el] at this
        rw [this, et, List.map_append, g1]
        rfl
      have f2 : upd (layf np p ((l.take i).map (fun q => nI (ld q.2)))) (p + i) (L.2 l[i].2) = layf np p ((l.take (i + 1)).map (fun q => nI (ld q.2))) := by
        have := layf_snoc np p ((l.take i).map (fun q => nI (ld q.2))) (L.2 l[i].2)
        rw [List.length_map, el] at this
        rw [this, et, List.map_append, g5]
        rfl
      show Fi_set_N s0 (lf, upd (layf nf p ((l.take i).map Prod.fst)) (p + i) ((Fi_features s0).2 (c + i))) (lp, upd (layf np p ((l.take i).map (fun q => nI (ld q.2)))) (p + i) (L.2 l[i].2)) u = _
      rw [f1, f2]
theorem o_move {n : Nat} (hn : 100000 ≤ n) {s0 : S_Fi} {L : Ar} {l : List (Int32 × Nat)} {ld : Nat → Nat} {c p : Nat} (hc : c + l.length ≤ (Fi_features s0).1) (hc2 : c + l.length ≤ (Fi_parts s0).1) (hp : p + l.length ≤ (Fi_nextFeatures s0).1) (hp2 : p + l.length ≤ (Fi_nextParts s0).1) (hcb : c + l.length ≤ 4096) (hpb : p + l.length ≤ 4096) (hl : ∀ k q, l[k]? = some q → (Fi_features s0).2 (c + k) = q.1 ∧ (Fi_parts s0).2 (c + k) = nI q.2 ∧ q.2 < L.1 ∧ q.2 < 4096 ∧ L.2 q.2 = nI (ld q.2)) (hu : Fi_nextUsed s0 = nI p) : xo (m_Fi_moveOver n s0 L (nI c) (nI l.length)) (fun o d => d = 0 ∧ o.1 = nI p ∧ o.2 = Fi_set_N s0 ((Fi_nextFeatures s0).1, layf (Fi_nextFeatures s0).2 p (l.map Prod.fst)) ((Fi_nextParts s0).1, layf (Fi_nextParts s0).2 p (l.map (fun q => nI (ld q.2)))) (nI (p + l.length))) := by
  unfold m_Fi_moveOver
  have hh := o_moveL (n := n) (s0 := s0) (L := L) (l := l) (ld := ld) (nf := (Fi_nextFeatures s0).2) (np := (Fi_nextParts s0).2) hc hc2 hp hp2 hcb hpb hl (nI p) n 0 s0 (by omega) (Nat.zero_le _) (by
    show s0 = Fi_set_N s0 ((Fi_nextFeatures s0).1, layf (Fi_nextFeatures s0).2 p []) ((Fi_nextParts s0).1, layf (Fi_nextParts s0).2 p []) (nI p)
    rw [layf_nil, layf_nil, ← hu])
  rw [← nI0] at hh
  rw [hu]
  refine xo_b _ hh (fun o d g => ?_)
  obtain ⟨rfl, g⟩ := g
  rw [g]
  refine xo_p ⟨rfl, rfl, ?_⟩
  show Fi_set_N s0 _ _ (nI p + nI l.length) = _
  rw [nI_add]
abbrev No_set_T (s : S_No) (k v st sz b : Ar) (f : S_Fi) : S_No := (k, v, st, sz, No_lead s, b, No_needed s, No_marked s, No_top s, No_lowest s, No_alive s, No_marks s, f, No_reached s)
theorem o_stays {n : Nat} {s : S_No} {z : AS} {mk : Nat → Bool} {i : Nat} (ht : a_t z ≤ 512) (hi : i < a_t z) (l1 : a_t z ≤ (No_marked s).1) (h1 : (No_marked s).2 i = if mkL mk (a_ld z) i then 1 else 0) (h6 : ∀ i, mk i = true → al z i) : m_No_staysBehind n s (nI i) = xm_p (if swK z mk i then 1 else 0) := by
  unfold m_No_staysBehind
  rw [xm_rd_eq (by omega) (by omega), h1]
  by_cases e : swK z mk i = true
  · have e1 := pb_iff.mp e
    rw [if_pos (show mkL mk (a_ld z) i = true by unfold mkL; rw [e1.1, decide_eq_true e1.2.2]; rfl), if_pos rfl, if_pos e]
  · rw [if_neg (show ¬ mkL mk (a_ld z) i = true from fun q => e (by
      unfold mkL at q
      rw [Bool.and_eq_true, decide_eq_true_iff] at q
      exact pb_t ⟨q.1, h6 i q.1, q.2⟩)), if_neg (by decide), if_neg e]
/-- rows behind the first i have been taken on -/
def TI (s0 : S_No) (z : AS) (mk : Nat → Bool) (i : Nat) (s : S_No) : Prop :=
  ∃ k v st sz b nf np : Nat → Int32, s = No_set_T s0 ((No_kinds s0).1, k) ((No_values s0).1, v) ((No_starts s0).1, st) ((No_sizes s0).1, sz) ((No_bodies s0).1, b) (Fi_set_N (No_fields s0) ((Fi_nextFeatures (No_fields s0)).1, nf) ((Fi_nextParts (No_fields s0)).1, np) (nI (sumf (swL z mk) i))) ∧
  (∀ j, j < i → swK z mk j = true → k j = a_kd (z_sw z mk) j ∧ v j = a_vl (z_sw z mk) j ∧ st j = nI (sumf (swL z mk) j) ∧ sz j = nI (swL z mk j) ∧ b j = nI j) ∧
  (∀ j, ¬ (j < i ∧ swK z mk j = true) → k j = (No_kinds s0).2 j ∧ v j = (No_values s0).2 j ∧ st j = (No_starts s0).2 j ∧ sz j = (No_sizes s0).2 j ∧ b j = (No_bodies s0).2 j) ∧
  (∀ (j m : Nat) (q : Int32 × Nat), j < i → (a_fl (z_sw z mk) j)[m]? = some q → nf (sumf (swL z mk) j + m) = q.1 ∧ np (sumf (swL z mk) j + m) = nI q.2)
theorem layf_in {f : Nat → Int32} {u : Nat} {l : List Int32} {m : Nat} {v : Int32} (h : l[m]? = some v) : layf f u l (u + m) = v := by
  have := (List.getElem?_eq_some_iff.mp h).1
  unfold layf
  rw [if_pos (by omega), show u + m - u = m by omega, List.getD_eq_getElem?_getD, h]
  rfl
theorem layf_out {f : Nat → Int32} {u : Nat} {l : List Int32} {j : Nat} (h : j < u) : layf f u l j = f j := by
  unfold layf
  rw [if_neg (by omega)]
theorem o_takeL {n : Nat} (hn : 100000 ≤ n) {s0 : S_No} {z : AS} {st bd : Nat → Nat} {lw : Nat} {mk : Nat → Bool} (hC : CN s0 z st bd (a_sum z) lw) (hM : CM s0 (a_t z) mk (a_ld z)) (hw : a_wf z) (h6 : ∀ i, mk i = true → al z i) (hN : a_sum z ≤ (Fi_nextFeatures (No_fields s0)).1 ∧ a_sum z ≤ (Fi_nextParts (No_fields s0)).1) : ∀ (fuel i : Nat) (s : S_No), a_t z - i < fuel → i ≤ a_t z → TI s0 z mk i s → xo (L_No_keepMarkedLeaders_9 n fuel (nI i) s) (fun o d => d = 0 ∧ TI s0 z mk (a_t z) o.2) := by
  have ht := hC.2.2.2.2.2.2.2.2.2.2.2.2.2.2.1
  have hu := hC.2.2.2.2.2.2.2.2.2.2.2.2.2.2.2
  have a1 := hC.1.1.2.2
  have a2 := hC.1.2.1.2.2
  have a3 := hC.1.2.2.1.2.2
  have a4 := hC.1.2.2.2.1.2.2
  have a5 := hC.1.2.2.2.2.1.2.2
  have a6 := hC.1.2.2.2.2.2.1.2.2
  have a8 := hC.1.2.2.2.2.2.2.2.2.2
  have f1 := hC.2.1.1.2.2
  have f2 := hC.2.1.2.1.2.2
  intro fuel
  induction fuel with
  | zero => intro i s h; omega
  | succ fuel ih =>
    intro i s h1 h2 hT
    rw [L_No_keepMarkedLeaders_9_s]
    obtain ⟨k, v, ss, sz, b, nf, np, es, t1, t2, t3⟩ := hT
    have hT0 : TI s0 z mk i s := ⟨k, v, ss, sz, b, nf, np, es, t1, t2, t3⟩
    have etop : No_top s = nI (a_t z) := by rw [es]; exact hC.2.2.1.1
    refine xo_le (a_t z) i etop rfl (by omega) (by omega) (fun q => ?_) (fun q => ?_)
    · have : i = a_t z := by omega
      subst this
      exact xo_p ⟨rfl, hT0⟩
    · have hst := o_stays (n := n) (s := s) ht q (by rw [es]; exact a8) (by rw [es]; exact hM.1 i q) h6
      rw [hst, xm_b_p]
      by_cases e : swK z mk i = true
      · rw [if_pos e, if_neg (by decide)]
        obtain ⟨m1, m2, m3⟩ := pb_iff.mp e
        obtain ⟨e1, e2, e3, l1, l2, l3, l4, l5, l6, l7, l8, l9, l10, l11⟩ := o_bd hC hw m2
        rw [m3] at e2 e3 l2
        have hnb : ¬ (bd i < i ∧ swK z mk (bd i) = true) := fun w => by
          have w1 := (pb_iff.mp w.2).2.2
          have w2 := e3.2.1
          rw [m3] at w2
          omega
        have hni : ¬ (i < i ∧ swK z mk i = true) := fun w => by omega
        obtain ⟨x1, x2, x3, x4, x5⟩ := t2 (bd i) hnb
        have hlen := swF_len hw m2 e3
        have hsL := swL_t e
        have hsle := sw_sum_le hw (mk := mk) (i + 1)
        rw [sumf_s] at hsle
        have h8 := hC.2.2.2.2.2.2.2.2.2.2.1 _ e3.1
        have hbi : (No_bodies s).2 i = nI (bd i) := by
          rw [es]
          show b i = _
          rw [(t2 i hni).2.2.2.2, e2]
        have hbl : (No_bodies s).1 = (No_bodies s0).1 := by rw [es]
        unfold m_No_takeOnBody
        refine xo_b (fun o d => d = 0 ∧ TI s0 z mk (i + 1) o) ?_ (fun o d g => ?_)
        · refine xo_rd i rfl (by omega) (by omega) ?_
          rw [hbi]
          subst es
          refine xo_rd (bd i) rfl (by show bd i < (No_kinds s0).1; omega) (by omega) ?_
          refine xo_wr i rfl (by show i < (No_kinds s0).1; omega) (by omega) ?_
          refine xo_rd (bd i) rfl (by show bd i < (No_values s0).1; omega) (by omega) ?_
          refine xo_wr i rfl (by show i < (No_values s0).1; omega) (by omega) ?_
          refine xo_rd (bd i) rfl (by show bd i < (No_starts s0).1; omega) (by omega) ?_
          refine xo_rd (bd i) rfl (by show bd i < (No_sizes s0).1; omega) (by omega) ?_
          show xo (xm_b (m_Fi_moveOver n _ _ (ss (bd i)) (sz (bd i))) _) _
          rw [x3, x4, hC.2.2.2.2.2.2.1 _ e3.1, hC.2.2.2.2.2.1 _ l2]
          refine xo_b _ (o_move (n := n) hn (s0 := Fi_set_N (No_fields s0) ((Fi_nextFeatures (No_fields s0)).1, nf) ((Fi_nextParts (No_fields s0)).1, np) (nI (sumf (swL z mk) i))) (L := No_lead s0) (l := a_fl z (bd i)) (ld := a_ld z) (c := st (bd i)) (p := sumf (swL z mk) i) (by show _ ≤ (Fi_features (No_fields s0)).1; omega) (by show _ ≤ (Fi_parts (No_fields s0)).1; omega) (by show _ ≤ (Fi_nextFeatures (No_fields s0)).1; omega) (by show _ ≤ (Fi_nextParts (No_fields s0)).1; omega) (by omega) (by omega) (fun m q2 hq2 => ?_) rfl) (fun o d g => ?_)
          · obtain ⟨y1, y2⟩ := hC.2.2.2.2.2.2.2.2.2.2.2.1 _ m e3.1 q2 hq2
            have hal := (hw.2.2.2.2.1 _ e3.1).2.2 q2 (List.mem_of_getElem? hq2)
            have hll := al_lt hw hal
            exact ⟨y1, y2, by omega, by omega, hC.2.2.2.2.2.2.2.1 _ hll⟩
          · obtain ⟨rfl, g1, g2⟩ := g
            rw [g1, g2]
            refine xo_wr i rfl (by show i < (No_starts s0).1; omega) (by omega) ?_
            refine xo_rd (bd i) rfl (by show bd i < (No_sizes s0).1; omega) (by omega) ?_
            refine xo_wr i rfl (by show i < (No_sizes s0).1; omega) (by omega) ?_
            refine xo_wr i rfl (by show i < (No_bodies s0).1; omega) (by omega) ?_
            refine xo_p ⟨rfl, upd k i (k (bd i)), upd v i (v (bd i)), upd ss i (nI (sumf (swL z mk) i)), upd sz i (sz (bd i)), upd b i (nI i), layf nf (sumf (swL z mk) i) ((a_fl z (bd i)).map Prod.fst), layf np (sumf (swL z mk) i) ((a_fl z (bd i)).map (fun q => nI (a_ld z q.2))), ?_, fun j hj hKj => ?_, fun j hj => ?_, fun j m q2 hj hq2 => ?_⟩
            · show No_set_T s0 _ _ _ _ _ (Fi_set_N (No_fields s0) _ _ (nI (sumf (swL z mk) i + (a_fl z (bd i)).length))) = _
              rw [sumf_s, hsL, hlen]
            · by_cases e4 : j = i
              · subst e4
                rw [upd_at, upd_at, upd_at, upd_at, upd_at, if_pos rfl, if_pos rfl, if_pos rfl, if_pos rfl, if_pos rfl]
                have hbe := a_bd_eq hw (a_body_spec m2) e3
                refine ⟨?_, ?_, rfl, ?_, rfl⟩
                · show _ = if swK z mk j = true then a_kd z (a_body z j) else -1
                  rw [if_pos e, x1, hC.2.2.2.1 _ l2, hbe.1]
                · show _ = if swK z mk j = true then a_vl z (a_body z j) else 0
                  rw [if_pos e, x2, hC.2.2.2.2.1 _ e3.1, hbe.2.1]
                · rw [x4, hC.2.2.2.2.2.1 _ l2, hsL, hlen]
              · rw [upd_at, upd_at, upd_at, upd_at, upd_at, if_neg e4, if_neg e4, if_neg e4, if_neg e4, if_neg e4]
                exact t1 j (by omega) hKj
            · have e4 : j ≠ i := fun w => hj ⟨by omega, by rw [w]; exact e⟩
              rw [upd_at, upd_at, upd_at, upd_at, upd_at, if_neg e4, if_neg e4, if_neg e4, if_neg e4, if_neg e4]
              exact t2 j (fun w => hj ⟨by omega, w.2⟩)
            · by_cases e4 : j = i
              · subst e4
                have hq3 : (if swK z mk j = true then swF z j else [])[m]? = some q2 := hq2
                rw [if_pos e, swF_eq hw m2 e3, List.getElem?_map] at hq3
                cases h : (a_fl z (bd j))[m]? with
                | none => rw [h] at hq3; exact absurd hq3 (by simp)
                | some q4 =>
                  rw [h] at hq3
                  cases hq3
                  exact ⟨layf_in (by rw [List.getElem?_map, h]; rfl), layf_in (by rw [List.getElem?_map, h]; rfl)⟩
              · have hlt : j < i := by omega
                have hm := (List.getElem?_eq_some_iff.mp hq2).1
                have hm2 : m < swL z mk j := hm
                have := sumf_mono (f := swL z mk) (show j + 1 ≤ i by omega)
                rw [sumf_s] at this
                rw [layf_out (by omega), layf_out (by omega)]
                exact t3 j m q2 hlt hq2
        · obtain ⟨rfl, g⟩ := g
          rw [nI_1]
          exact xo_m (ih (i + 1) o (by omega) (by omega) g) (fun o c g => ⟨by have := g.1; omega, g.2⟩)
      · rw [if_neg e, if_pos rfl, nI_1]
        refine ih (i + 1) s (by omega) (by omega) ⟨k, v, ss, sz, b, nf, np, ?_, fun j hj hK => ?_, fun j hj => ?_, fun j m q2 hj hq2 => ?_⟩
        · rw [sumf_s, swL_f e, Nat.add_zero]; exact es
        · exact t1 j (by have : j ≠ i := fun w => e (w ▸ hK); omega) hK
        · exact t2 j (fun w => hj ⟨by omega, w.2⟩)
        · by_cases e4 : j = i
          · subst e4
            have hm : m < swL z mk j := (List.getElem?_eq_some_iff.mp hq2).1
            rw [swL_f e] at hm
            omega
          · exact t3 j m q2 (by omega) hq2
/-- rows behind the first i have been given back, or kept -/
def VI (s0 : S_No) (z : AS) (mk : Nat → Bool) (i : Nat) (s : S_No) : Prop :=
  ∃ k v st sz l b nd m : Nat → Int32, s = (((No_kinds s0).1, k), ((No_values s0).1, v), ((No_starts s0).1, st), ((No_sizes s0).1, sz), ((No_lead s0).1, l), ((No_bodies s0).1, b), ((No_needed s0).1, nd), ((No_marked s0).1, m), No_top s0, No_lowest s0, nI (cnt (swK z mk) i), No_marks s0, No_fields s0, No_reached s0) ∧
  (∀ j, j < i → ¬ swK z mk j = true → k j = -1 ∧ v j = 0 ∧ st j = 0 ∧ sz j = 0 ∧ l j = nI j ∧ b j = nI j ∧ nd j = 0) ∧
  (∀ j, ¬ (j < i ∧ ¬ swK z mk j = true) → k j = (No_kinds s0).2 j ∧ v j = (No_values s0).2 j ∧ st j = (No_starts s0).2 j ∧ sz j = (No_sizes s0).2 j ∧ l j = (No_lead s0).2 j ∧ b j = (No_bodies s0).2 j ∧ nd j = (No_needed s0).2 j) ∧
  (∀ j, m j = if j < i then 0 else (No_marked s0).2 j)
theorem o_vacL {n : Nat} {s0 : S_No} {z : AS} {mk : Nat → Bool} (hw : a_wf z) (ht : a_t z ≤ 512) (hA : ArOk (No_kinds s0) (a_t z) ∧ ArOk (No_values s0) (a_t z) ∧ ArOk (No_starts s0) (a_t z) ∧ ArOk (No_sizes s0) (a_t z) ∧ ArOk (No_lead s0) (a_t z) ∧ ArOk (No_bodies s0) (a_t z) ∧ ArOk (No_needed s0) (a_t z) ∧ ArOk (No_marked s0) (a_t z)) (hT : No_top s0 = nI (a_t z)) (hM : ∀ i, i < a_t z → (No_marked s0).2 i = if mkL mk (a_ld z) i then 1 else 0) (hL : ∀ i, i < a_t z → (No_lead s0).2 i = nI (a_ld z i)) (h6 : ∀ i, mk i = true → al z i) : ∀ (fuel i : Nat) (s : S_No), a_t z - i < fuel → i ≤ a_t z → VI s0 z mk i s → xo (L_No_vacateAllOthers_9 n fuel (nI (topf (swK z mk) i)) (nI i) s) (fun o d => d = 0 ∧ o.1 = nI (topf (swK z mk) (a_t z)) ∧ VI s0 z mk (a_t z) o.2.2) := by
  intro fuel
  induction fuel with
  | zero => intro i s h; omega
  | succ fuel ih =>
    intro i s h1 h2 hV
    rw [L_No_vacateAllOthers_9_s]
    obtain ⟨k, v, ss, sz, l, b, nd, m, es, t1, t2, t3⟩ := hV
    have hV0 : VI s0 z mk i s := ⟨k, v, ss, sz, l, b, nd, m, es, t1, t2, t3⟩
    have etop : No_top s = nI (a_t z) := by rw [es]; exact hT
    refine xo_le (a_t z) i etop rfl (by omega) (by omega) (fun q => ?_) (fun q => ?_)
    · have : i = a_t z := by omega
      subst this
      exact xo_p ⟨rfl, rfl, hV0⟩
    · have hni : ¬ (i < i ∧ ¬ swK z mk i = true) := fun w => by omega
      have hst := o_stays (n := n) (s := s) (mk := mk) ht q (by rw [es]; exact hA.2.2.2.2.2.2.2.2.2) (by rw [es]; show m i = _; rw [t3 i, if_neg (by omega)]; exact hM i q) h6
      rw [hst, xm_b_p]
      by_cases e : swK z mk i = true
      · rw [if_pos e, if_neg (by decide)]
        subst es
        have := hA.2.2.2.2.2.2.2.2.2
        refine xo_wr i rfl (by show i < (No_marked s0).1; omega) (by omega) ?_
        have et : topf (swK z mk) (i + 1) = i + 1 := by
          unfold topf
          rw [if_pos e]
        have key : ∀ s', VI s0 z mk (i + 1) s' → xo (L_No_vacateAllOthers_9 n fuel (nI (i + 1)) (nI (i + 1)) s') (fun o d => d = 0 ∧ o.1 = nI (topf (swK z mk) (a_t z)) ∧ VI s0 z mk (a_t z) o.2.2) := fun s' hV => by
          have := ih (i + 1) s' (by omega) (by omega) hV
          rw [et] at this
          exact this
        rw [nI_1]
        refine key _ ⟨k, v, ss, sz, l, b, nd, upd m i 0, ?_, fun j hj hK => ?_, fun j hj => ?_, fun j => ?_⟩
        · show (_, _, _, _, _, _, _, _, _, _, nI (cnt (swK z mk) i) + 1, _) = _
          rw [nI_1, cnt_s, e]
          rfl
        · exact t1 j (by have : j ≠ i := fun w => hK (w ▸ e); omega) hK
        · exact t2 j (fun w => hj ⟨by omega, w.2⟩)
        · rw [upd_at, t3 j]
          by_cases e4 : j = i
          · rw [if_pos e4, if_pos (by omega)]
          · rw [if_neg e4]
            by_cases e5 : j < i
            · rw [if_pos e5, if_pos (by omega)]
            · rw [if_neg e5, if_neg (by omega)]
      · rw [if_neg e, if_pos rfl]
        have up : ∀ {a : Ar} {f : Nat → Int32}, ArOk a (a_t z) → ArOk (a.1, f) (i + 1) := fun h => ⟨h.1, h.2.1, by have := h.2.2; show i + 1 ≤ _; omega⟩
        refine xo_b _ (o_vacate (n := n) (s := s) (x := i) (by subst es; exact ⟨up hA.1, up hA.2.1, up hA.2.2.1, up hA.2.2.2.1, up hA.2.2.2.2.1, up hA.2.2.2.2.2.1, up hA.2.2.2.2.2.2.1, up hA.2.2.2.2.2.2.2⟩)) (fun o d g => ?_)
        obtain ⟨rfl, g⟩ := g
        have et : nI (topf (swK z mk) i) = nI (topf (swK z mk) (i + 1)) := by
          show _ = nI (if swK z mk i = true then i + 1 else topf (swK z mk) i)
          rw [if_neg e]
        rw [et, nI_1]
        subst es
        refine xo_m (ih (i + 1) o (by omega) (by omega) ⟨upd k i (-1), upd v i 0, upd ss i 0, upd sz i 0, upd l i (nI i), upd b i (nI i), upd nd i 0, upd m i 0, ?_, fun j hj hK => ?_, fun j hj => ?_, fun j => ?_⟩) (fun o c g => ⟨by have := g.1; omega, g.2⟩)
        · rw [g]
          show (_, _, _, _, _, _, _, _, _, _, nI (cnt (swK z mk) i), _) = _
          rw [cnt_s, show swK z mk i = false by simpa using e]
          rfl
        · by_cases e4 : j = i
          · subst e4
            rw [upd_at, upd_at, upd_at, upd_at, upd_at, upd_at, upd_at, if_pos rfl, if_pos rfl, if_pos rfl, if_pos rfl, if_pos rfl, if_pos rfl, if_pos rfl]
            exact ⟨rfl, rfl, rfl, rfl, rfl, rfl, rfl⟩
          · rw [upd_at, upd_at, upd_at, upd_at, upd_at, upd_at, upd_at, if_neg e4, if_neg e4, if_neg e4, if_neg e4, if_neg e4, if_neg e4, if_neg e4]
            exact t1 j (by omega) hK
        · have e4 : j ≠ i := fun w => hj ⟨by omega, by rw [w]; exact e⟩
          rw [upd_at, upd_at, upd_at, upd_at, upd_at, upd_at, upd_at, if_neg e4, if_neg e4, if_neg e4, if_neg e4, if_neg e4, if_neg e4, if_neg e4]
          exact t2 j (fun w => hj ⟨by omega, w.2⟩)
        · rw [upd_at, t3 j]
          by_cases e4 : j = i
          · rw [if_pos e4, if_pos (by omega)]
          · rw [if_neg e4]
            by_cases e5 : j < i
            · rw [if_pos e5, if_pos (by omega)]
            · rw [if_neg e5, if_neg (by omega)]
theorem o_keepM {n : Nat} (hn : 100000 ≤ n) {s : S_No} {z : AS} {st bd : Nat → Nat} {lw : Nat} {mk : Nat → Bool} {nd : Nat → Prop} (hC : CN s z st bd (a_sum z) lw) (hM : CM s (a_t z) mk (a_ld z)) (hD : CD s z nd) (hw : a_wf z) (h6 : ∀ i, mk i = true → al z i) : xo (m_No_keepMarkedLeaders n s) (fun o d => (∃ st2 bd2, CN o (z_sw z mk) st2 bd2 (a_sum (z_sw z mk)) 0) ∧ CM o (a_t (z_sw z mk)) (fun _ => false) (a_ld (z_sw z mk)) ∧ CD o (z_sw z mk) nd ∧ No_alive o = nI (cnt (swK z mk) (a_t z)) ∧ d + 2 * LNo s ≤ 2 * LNo o) := by
  have ht := hC.2.2.2.2.2.2.2.2.2.2.2.2.2.2.1
  have hu := hC.2.2.2.2.2.2.2.2.2.2.2.2.2.2.2
  obtain ⟨hA, hF, hS, hR⟩ := hC
  have hs1 := sw_sum_le hw (mk := mk) (a_t z)
  unfold m_No_keepMarkedLeaders m_Fi_beginMove m_Fi_endMove
  rw [hS.2.2.2]
  refine xo_b (fun o d => ∃ a b : Ar, o = Fi_set_N (No_fields s) a b 0 ∧ ArOk a (a_sum z) ∧ ArOk b (a_sum z) ∧ d + 2 * ((Fi_nextFeatures (No_fields s)).1 + (Fi_nextParts (No_fields s)).1) ≤ 2 * (a.1 + b.1)) ?_ (fun o1 d1 g1 => ?_)
  · refine xo_b _ (o_roomK hF.2.2.1 (m := a_sum z) (by omega)) (fun a1 c1 g1 => ?_)
    refine xo_b _ (o_roomK hF.2.2.2.1 (m := a_sum z) (by omega)) (fun a2 c2 g2 => ?_)
    refine xo_p ⟨a1, a2, ?_, g1.1, g2.1, ?_⟩
    · show (_, _, nI (a_sum z), _, _, _) = _
      rw [← hS.2.2.2]
    · have := g1.2.2.2
      have := g2.2.2.2
      omega
  · obtain ⟨na, nb, rfl, g2, g3, g4⟩ := g1
    obtain ⟨s1, es1⟩ : ∃ s1 : S_No, s1 = No_set_T s (No_kinds s) (No_values s) (No_starts s) (No_sizes s) (No_bodies s) (Fi_set_N (No_fields s) na nb 0) := ⟨_, rfl⟩
    have hC1 : CN s1 z st bd (a_sum z) lw := by
      subst es1
      exact ⟨hA, ⟨hF.1, hF.2.1, ⟨g2.1, g2.2.1, Nat.zero_le _⟩, ⟨g3.1, g3.2.1, Nat.zero_le _⟩, hF.2.2.2.2⟩, hS, hR⟩
    have hM1 : CM s1 (a_t z) mk (a_ld z) := by subst es1; exact hM
    have hT0 : TI s1 z mk 0 s1 := ⟨(No_kinds s1).2, (No_values s1).2, (No_starts s1).2, (No_sizes s1).2, (No_bodies s1).2, (Fi_nextFeatures (No_fields s1)).2, (Fi_nextParts (No_fields s1)).2, by subst es1; show _ = No_set_T _ _ _ _ _ _ (Fi_set_N _ _ _ (nI 0)); rw [← nI0], fun j hj => by omega, fun j _ => ⟨rfl, rfl, rfl, rfl, rfl⟩, fun j m q hj => by omega⟩
    have hh := o_takeL (n := n) hn hC1 hM1 hw h6 (by subst es1; exact ⟨g2.2.2, g3.2.2⟩) n 0 s1 (by omega) (Nat.zero_le _) hT0
    rw [← nI0] at hh
    have hh2 := hh
    rw [es1] at hh2
    refine xo_b _ hh2 (fun o2 d2 k2 => ?_)
    obtain ⟨rfl, k, v, ss, sz, b, nf, np, eo, t1, t2, t3⟩ := k2
    rw [xm_b_p]
    have eo2 : o2.2 = No_set_T s ((No_kinds s).1, k) ((No_values s).1, v) ((No_starts s).1, ss) ((No_sizes s).1, sz) ((No_bodies s).1, b) (Fi_set_N (No_fields s) (na.1, nf) (nb.1, np) (nI (sumf (swL z mk) (a_t z)))) := eo
    rw [eo2]
    obtain ⟨s2, es2⟩ : ∃ s2 : S_No, s2 = No_set_T s ((No_kinds s).1, k) ((No_values s).1, v) ((No_starts s).1, ss) ((No_sizes s).1, sz) ((No_bodies s).1, b) ((na.1, nf), (nb.1, np), nI (sumf (swL z mk) (a_t z)), Fi_features (No_fields s), Fi_parts (No_fields s), nI (sumf (swL z mk) (a_t z))) := ⟨_, rfl⟩
    have hA2 : ArOk (No_kinds s2) (a_t z) ∧ ArOk (No_values s2) (a_t z) ∧ ArOk (No_starts s2) (a_t z) ∧ ArOk (No_sizes s2) (a_t z) ∧ ArOk (No_lead s2) (a_t z) ∧ ArOk (No_bodies s2) (a_t z) ∧ ArOk (No_needed s2) (a_t z) ∧ ArOk (No_marked s2) (a_t z) := by subst es2; exact hA
    have hL2 : ∀ i, i < a_t z → (No_lead s2).2 i = nI (a_ld z i) := by subst es2; subst es1; exact hC1.2.2.2.2.2.2.2.1
    have hV0 : VI s2 z mk 0 ((No_kinds s2), (No_values s2), (No_starts s2), (No_sizes s2), (No_lead s2), (No_bodies s2), (No_needed s2), (No_marked s2), (No_top s2), (No_lowest s2), (0 : Int32), (No_marks s2), (No_fields s2), (No_reached s2)) := ⟨(No_kinds s2).2, (No_values s2).2, (No_starts s2).2, (No_sizes s2).2, (No_lead s2).2, (No_bodies s2).2, (No_needed s2).2, (No_marked s2).2, by show _ = (_, _, _, _, _, _, _, _, _, _, nI 0, _); rw [← nI0], fun j hj => by omega, fun j _ => ⟨rfl, rfl, rfl, rfl, rfl, rfl, rfl⟩, fun j => by rw [if_neg (by omega)]⟩
    have hv := o_vacL (n := n) (s0 := s2) hw ht hA2 (by subst es2; exact hS.1) (by subst es2; exact hM.1) hL2 h6 n 0 _ (by omega) (Nat.zero_le _) hV0
    rw [show nI (topf (swK z mk) 0) = (0 : Int32) from nI0.symm, ← nI0] at hv
    unfold m_No_vacateAllOthers
    have hv2 := hv
    rw [es2] at hv2
    refine xo_b (fun o d => d = 0 ∧ ∃ s3, o = ((No_kinds s3), (No_values s3), (No_starts s3), (No_sizes s3), (No_lead s3), (No_bodies s3), (No_needed s3), (No_marked s3), nI (topf (swK z mk) (a_t z)), (0 : Int32), (No_alive s3), (0 : Int32), (No_fields s3), (No_reached s3)) ∧ VI s2 z mk (a_t z) s3) (xo_b _ hv2 (fun o3 d3 k3 => ?_)) (fun o3 d3 k3 => ?_)
    · obtain ⟨rfl, k4, k5⟩ := k3
      rw [k4]
      exact xo_p ⟨rfl, o3.2.2, rfl, by rw [es2]; exact k5⟩
    · obtain ⟨rfl, s3, rfl, K3, V3, ST3, SZ3, L3, B3, N3, M3, es3, w1, w2, w3⟩ := k3
      have hal := fun i => sw_al hw (mk := mk) (i := i)
      have htl := topf_le (swK z mk) (a_t z)
      have hsum := sw_sum (mk := mk) hw
      -- a row that stays, and one that does not
      have stay : ∀ j, j < a_t z → swK z mk j = true → K3 j = a_kd (z_sw z mk) j ∧ V3 j = a_vl (z_sw z mk) j ∧ ST3 j = nI (sumf (swL z mk) j) ∧ SZ3 j = nI (swL z mk j) ∧ L3 j = nI j ∧ B3 j = nI j ∧ N3 j = (No_needed s).2 j := fun j hj hK => by
        obtain ⟨y1, y2, y3, y4, y5, y6, y7⟩ := w2 j (fun w => w.2 hK)
        obtain ⟨u1, u2, u3, u4, u5⟩ := t1 j hj hK
        have z1 : (No_lead s2).2 j = nI j := by rw [hL2 j hj, (pb_iff.mp hK).2.2]
        rw [y1, y2, y3, y4, y5, y6, y7, z1, es2]
        exact ⟨u1, u2, u3, u4, rfl, u5, rfl⟩
      have ekd0 : ∀ j, ¬ swK z mk j = true → a_kd (z_sw z mk) j = -1 := fun j hK => if_neg hK
      have efl0 : ∀ j, ¬ swK z mk j = true → a_fl (z_sw z mk) j = [] := fun j hK => if_neg hK
      have le2 : ∀ {a : Ar} {f : Nat → Int32}, ArOk a (a_t z) → ArOk (a.1, f) (a_t (z_sw z mk)) := fun h => ⟨h.1, h.2.1, Nat.le_trans htl h.2.2⟩
      subst es3
      have hbig : ∀ {a : Ar} {f : Nat → Int32}, ArOk a (a_sum z) → ArOk (a.1, f) (a_sum (z_sw z mk)) := fun h => ⟨h.1, h.2.1, by rw [hsum]; exact Nat.le_trans hs1 h.2.2⟩
      refine xo_p ⟨⟨sumf (swL z mk), fun i => i, ⟨?_, ?_, ⟨rfl, nI0, ?_, ?_⟩, ?_, ?_, ?_, ?_, ?_, ?_, ?_, ?_, ?_, ?_, fun i hi => by omega, ?_⟩⟩, ⟨?_, ?_⟩, ⟨?_, fun i _ _ h => h⟩, rfl, ?_⟩
      · exact ⟨le2 hA2.1, le2 hA2.2.1, le2 hA2.2.2.1, le2 hA2.2.2.2.1, le2 hA2.2.2.2.2.1, le2 hA2.2.2.2.2.2.1, le2 hA2.2.2.2.2.2.2.1, le2 hA2.2.2.2.2.2.2.2⟩
      · subst es2
        exact ⟨hbig g2, hbig g3, ⟨hF.1.1, hF.1.2.1, Nat.zero_le _⟩, ⟨hF.2.1.1, hF.2.1.2.1, Nat.zero_le _⟩, hF.2.2.2.2⟩
      · show nI (cnt (swK z mk) (a_t z)) = _
        rw [sw_cnt hw]
      · subst es2
        show nI (sumf (swL z mk) (a_t z)) = _
        rw [hsum]
      · intro i hi
        have hi' : i < a_t z := Nat.lt_of_lt_of_le hi htl
        show K3 i = _
        by_cases hK : swK z mk i = true
        · exact (stay i hi' hK).1
        · rw [(w1 i hi' hK).1, ekd0 i hK]
      · intro i hi
        have hK := (hal i).mp hi
        exact (stay i (al_lt hw (pb_iff.mp hK).2.1) hK).2.1
      · intro i hi
        have hi' : i < a_t z := Nat.lt_of_lt_of_le hi htl
        show SZ3 i = _
        by_cases hK : swK z mk i = true
        · exact (stay i hi' hK).2.2.2.1
        · rw [(w1 i hi' hK).2.2.2.1, efl0 i hK]
          exact nI0
      · intro i hi
        have hK := (hal i).mp hi
        exact (stay i (al_lt hw (pb_iff.mp hK).2.1) hK).2.2.1
      · intro i hi
        have hi' : i < a_t z := Nat.lt_of_lt_of_le hi htl
        show L3 i = nI i
        by_cases hK : swK z mk i = true
        · exact (stay i hi' hK).2.2.2.2.1
        · exact (w1 i hi' hK).2.2.2.2.1
      · intro i hi
        have hi' : i < a_t z := Nat.lt_of_lt_of_le hi htl
        refine ⟨?_, hi⟩
        show B3 i = nI i
        by_cases hK : swK z mk i = true
        · exact (stay i hi' hK).2.2.2.2.2.1
        · exact (w1 i hi' hK).2.2.2.2.2.1
      · intro r hr _
        exact ⟨hr, rfl, fun h0 j hj hjl => by have e : j = r := hjl; rw [e]; exact h0⟩
      · intro i hi
        have hK := (hal i).mp hi
        rw [hsum]
        have := sumf_mono (f := swL z mk) (show i + 1 ≤ a_t z from al_lt hw (pb_iff.mp hK).2.1)
        rw [sumf_s] at this
        exact this
      · intro i m hi q hq
        have hK := (hal i).mp hi
        have := t3 i m q (al_lt hw (pb_iff.mp hK).2.1) hq
        subst es2
        exact this
      · intro i j hi hj hij
        have h1 : ∀ {a b : Nat}, a ≤ b → sumf (swL z mk) a ≤ sumf (swL z mk) b := sumf_mono
        by_cases e : i < j
        · have := h1 (show i + 1 ≤ j from e)
          rw [sumf_s] at this
          exact Or.inl this
        · have := h1 (show j + 1 ≤ i by omega)
          rw [sumf_s] at this
          exact Or.inr this
      · exact ⟨Nat.le_trans htl ht, by rw [hsum]; omega⟩
      · intro i hi
        have hi' : i < a_t z := Nat.lt_of_lt_of_le hi htl
        show M3 i = 0
        rw [w3 i, if_pos hi']
      · show (0 : Int32) = _
        rw [cnt_false]
        exact nI0
      · intro r hr _ hv
        have hK := (hal r).mp hr
        obtain ⟨p1, p2, p3⟩ := pb_iff.mp hK
        have hrt := al_lt hw p2
        show N3 r = 1 ↔ nd r
        rw [(stay r hrt hK).2.2.2.2.2.2]
        refine hD.1 r p2 p3 ?_
        have h0 : a_kd (z_sw z mk) r = 0 := hv r hr rfl
        have h1 : a_kd z (a_body z r) = 0 := by
          have h2 : (if swK z mk r = true then a_kd z (a_body z r) else -1) = 0 := h0
          rw [if_pos hK] at h2
          exact h2
        have := (a_var_bd (a_body_spec p2)).mpr h1
        rw [p3] at this
        exact this
      · subst es2
        show d1 + (0 + (0 + 0)) + 2 * LNo s ≤ 2 * ((No_kinds s).1 + (No_values s).1 + (No_starts s).1 + (No_sizes s).1 + (No_lead s).1 + (No_bodies s).1 + (No_needed s).1 + (No_marked s).1 + na.1 + nb.1 + (Fi_features (No_fields s)).1 + (Fi_parts (No_fields s)).1 + (Ld_row (No_reached s)).1)
        unfold LNo
        omega
theorem o_forget {n : Nat} {s : S_Ts} : m_Ts_forgetPushedAndTouched n s = xm_p (Ts_nodes s, (Pu_features (Ts_pushed s), Pu_parts (Ts_pushed s), 0), Ts_trial s, Ts_likeness s, (Ld_row (Ts_touchedLeaders s), 0)) := by
  unfold m_Ts_forgetPushedAndTouched m_Ld_empty
  rw [xm_b_p]
theorem c_sweep {n : Nat} (hn : 100000 ≤ n) {s : S_Ts} {F : FS} {c : Nat} (hC : CT s F) (hF : FI F c) : xoC (m_Ts_sweep n s) s (sp_sweep F) := by
  obtain ⟨⟨st, bd, lw, h1⟩, h2, h3, h4, h5, h6, h7⟩ := hC
  unfold m_Ts_sweep
  refine xo_b _ (o_keepM hn h1 h2 h3 hF.1 hF.2.2.2.2.2.1) (fun o d g => ?_)
  obtain ⟨⟨st2, bd2, g1⟩, g2, g3, g4, g5⟩ := g
  rw [o_forget, xm_b_p]
  refine xo_p ⟨_, ⟨?_, rfl⟩, ⟨⟨st2, bd2, 0, g1⟩, g2, g3, ⟨⟨h4.1.1, h4.1.2.1, Nat.zero_le _⟩, ⟨h4.2.1.1, h4.2.1.2.1, Nat.zero_le _⟩, nI0, Nat.zero_le _, fun k q hq => absurd (show ([] : List (Int32 × Nat))[k]? = some q from hq) (by simp)⟩, ⟨⟨h5.1.1, h5.1.2.1, Nat.zero_le _⟩, nI0, Nat.zero_le _, fun k q hq => absurd (show ([] : List Nat)[k]? = some q from hq) (by simp)⟩, h6, h7⟩, ?_⟩
  · show No_alive (Ts_nodes s) - No_alive o = _
    rw [h1.2.2.1.2.2.1, g4]
  · show d + 0 + 2 * LTs s ≤ 2 * (LNo o + LPu (Ts_pushed s) + LTr (Ts_trial s) + LLk (Ts_likeness s) + (Ld_row (Ts_touchedLeaders s)).1)
    unfold LTs
    omega
theorem c_clear {n : Nat} (hn : 100000 ≤ n) {s : S_Ts} {F : FS} {c : Nat} (hC : CT s F) (hF : FI F c) : xoC (m_Ts_clear n s) s (sp_clear F) := by
  obtain ⟨⟨st, bd, lw, h1⟩, h2, h3, h4, h5, h6, h7⟩ := hC
  have hb := hF.2.2.2.2.1
  have hlm := h1.1.2.2.2.2.2.2.2
  unfold m_Ts_clear
  refine xo_b _ (o_drop (n := n) hn (by omega) h2 h1.2.2.1.1 hlm) (fun o2 d2 g2 => ?_)
  obtain ⟨rfl, k1, k2, k3⟩ := g2
  have hmk : ArOk (No_marked o2) (a_t (f_z F)) := ⟨by rw [k2]; exact hlm.1, by rw [k2]; exact hlm.2.1, by rw [k2]; exact hlm.2.2⟩
  have hC2 : CN o2 (f_z F) st bd (a_sum (f_z F)) lw := by
    rw [k3]
    exact CN_M h1 hmk ⟨h1.2.1.2.2.2.2.1, h1.2.1.2.2.2.2.2.1, Nat.zero_le _⟩
  have hD2 : CD o2 (f_z F) (f_nd F) := by rw [k3]; exact h3
  have hL2 : LNo o2 = LNo (Ts_nodes s) := by
    unfold LNo
    rw [k2, k3]
  refine xo_b _ (o_keepM hn hC2 (k1 _) hD2 hF.1 (fun i hi => absurd hi (by decide))) (fun o d g => ?_)
  obtain ⟨⟨st2, bd2, g1⟩, g2, g3, g4, g5⟩ := g
  rw [o_forget, xm_b_p]
  refine xo_p ⟨_, ⟨?_, rfl⟩, ⟨⟨st2, bd2, 0, g1⟩, g2, g3, ⟨⟨h4.1.1, h4.1.2.1, Nat.zero_le _⟩, ⟨h4.2.1.1, h4.2.1.2.1, Nat.zero_le _⟩, nI0, Nat.zero_le _, fun k q hq => absurd (show ([] : List (Int32 × Nat))[k]? = some q from hq) (by simp)⟩, ⟨⟨h5.1.1, h5.1.2.1, Nat.zero_le _⟩, nI0, Nat.zero_le _, fun k q hq => absurd (show ([] : List Nat)[k]? = some q from hq) (by simp)⟩, h6, h7⟩, ?_⟩
  · exact h1.2.2.1.2.2.1
  · show 0 + (d + 0) + 2 * LTs s ≤ 2 * (LNo o + LPu (Ts_pushed s) + LTr (Ts_trial s) + LLk (Ts_likeness s) + (Ld_row (Ts_touchedLeaders s)).1)
    unfold LTs
    omega
