noncomputable def m_No_markLeader (n : Nat) (s0 : S_No) (p0 : Int32) : MO (S_No) := (xm_rd (No_marked s0) p0 (fun v9 => (if v9 = 0 then (xm_wr (No_marked s0) p0 (1 : Int32) (fun a11 => (xm_b (m_Ld_append n (No_reached s0) p0) (fun o12 => (xm_p ((No_kinds s0), (No_values s0), (No_starts s0), (No_sizes s0), (No_lead s0), (No_bodies s0), (No_needed s0), a11, (No_top s0), (No_lowest s0), (No_alive s0), (No_marks s0), (No_fields s0), o12)))))) else (xm_p s0))))
set_option maxHeartbeats 4000000 in
set_option maxRecDepth 100000 in
theorem c_No_markLeader (l : Launch) (D : va_G) (cA : Nat → ClassId) (n : Nat) (ob0 ad0 : Nat → Nat) (s0 : S_No) (p0 : Int32) (out : S_No) (k : KC) (hm : m_No_markLeader n s0 p0 = some (out, k)) : XM l D cA y_No_markLeader b_No_markLeader 2 none 4 128 [.ref (ob0 0), .int p0] ((w_No cA ob0 ad0  s0)) k (fun _ => none) (fun ad => (w_No cA ob0 ad  out)) := by
  refine x_met (cc := b_No_markLeader) (nL := 2) (ret := none) R_No (by decide) (Nat.le_of_ble_eq_true rfl) rfl (fun X F I E => ?_)
  unfold m_No_markLeader at hm
  refine x_nf2 (ws' := [((ob0 0), .inr (3, [.ref (ad0 0), .ref (ad0 1), .ref (ad0 2), .ref (ad0 3), .ref (ad0 4), .ref (ad0 5), .ref (ad0 6), .ref (ad0 7), .int (No_top s0), .int (No_lowest s0), .int (No_alive s0), .int (No_marks s0), .ref (ob0 1), .ref (ob0 2)])), ((ad0 0), .inl (cA 0, (No_kinds s0).1, .inl (No_kinds s0).2)), ((ad0 1), .inl (cA 0, (No_values s0).1, .inl (No_values s0).2)), ((ad0 2), .inl (cA 0, (No_starts s0).1, .inl (No_starts s0).2)), ((ad0 3), .inl (cA 0, (No_sizes s0).1, .inl (No_sizes s0).2)), ((ad0 4), .inl (cA 0, (No_lead s0).1, .inl (No_lead s0).2)), ((ad0 5), .inl (cA 0, (No_bodies s0).1, .inl (No_bodies s0).2)), ((ad0 6), .inl (cA 0, (No_needed s0).1, .inl (No_needed s0).2)), ((ad0 7), .inl (cA 0, (No_marked s0).1, .inl (No_marked s0).2)), ((ob0 1), .inr (0, [.ref (ad0 8), .ref (ad0 9), .int (Fi_used (No_fields s0)), .ref (ad0 10), .ref (ad0 11), .int (Fi_nextUsed (No_fields s0))])), ((ad0 8), .inl (cA 0, (Fi_features (No_fields s0)).1, .inl (Fi_features (No_fields s0)).2)), ((ad0 9), .inl (cA 0, (Fi_parts (No_fields s0)).1, .inl (Fi_parts (No_fields s0)).2)), ((ad0 10), .inl (cA 0, (Fi_nextFeatures (No_fields s0)).1, .inl (Fi_nextFeatures (No_fields s0)).2)), ((ad0 11), .inl (cA 0, (Fi_nextParts (No_fields s0)).1, .inl (Fi_nextParts (No_fields s0)).2)), ((ob0 2), .inr (1, [.ref (ad0 12), .int (Ld_size (No_reached s0))])), ((ad0 12), .inl (cA 0, (Ld_row (No_reached s0)).1, .inl (Ld_row (No_reached s0)).2))]) (lv' := [(0, .ref (ob0 0)), (1, .int p0)]) rfl rfl ?_
  refine x_aload_n F d_No_markLeader_0 0 rfl rfl ?_
  refine x_get F ck_No hin_No 0 7 rfl (by decide) kw_138 rfl rfl d_No_markLeader_1 ?_
  refine x_iload_n F d_No_markLeader_4 1 rfl rfl ?_
  replace hm := xm_rd_some hm
  obtain ⟨v9, e_v9, b_v9, hm⟩ := hm
  refine x_iald (x := (No_marked s0)) F 8 rfl e_v9 b_v9 d_No_markLeader_5 ?_
  refine x_if_ne F 24 d_No_markLeader_6 (by decide) (fun c10 => ?_) (fun c10 => ?_)
  · replace hm := xm_f hm c10
    replace hm := xm_p_some hm
    obtain ⟨eo, c_o, d_o⟩ := hm
    subst eo
    refine x_sub [0, 1, 2, 3, 4, 5, 6, 7, 8, 9, 10, 11, 12, 13, 14, 15] (by decide) ?_ (xe_v E ad0 (by omega) (by omega)  d_No_markLeader_24)
    rfl
  · replace hm := xm_t hm c10
    refine x_aload_n F d_No_markLeader_9 0 rfl rfl ?_
    refine x_get F ck_No hin_No 0 7 rfl (by decide) kw_138 rfl rfl d_No_markLeader_10 ?_
    refine x_iload_n F d_No_markLeader_13 1 rfl rfl ?_
    refine x_iconst (v := (1 : Int32)) F d_No_markLeader_14 (by decide) ?_
    replace hm := xm_wr_some hm
    obtain ⟨a11, e_a11, b_a11, hm⟩ := hm
    refine x_iast (x := (No_marked s0)) (x' := a11) (ws' := [((ob0 0), .inr (3, [.ref (ad0 0), .ref (ad0 1), .ref (ad0 2), .ref (ad0 3), .ref (ad0 4), .ref (ad0 5), .ref (ad0 6), .ref (ad0 7), .int (No_top s0), .int (No_lowest s0), .int (No_alive s0), .int (No_marks s0), .ref (ob0 1), .ref (ob0 2)])), ((ad0 0), .inl (cA 0, (No_kinds s0).1, .inl (No_kinds s0).2)), ((ad0 1), .inl (cA 0, (No_values s0).1, .inl (No_values s0).2)), ((ad0 2), .inl (cA 0, (No_starts s0).1, .inl (No_starts s0).2)), ((ad0 3), .inl (cA 0, (No_sizes s0).1, .inl (No_sizes s0).2)), ((ad0 4), .inl (cA 0, (No_lead s0).1, .inl (No_lead s0).2)), ((ad0 5), .inl (cA 0, (No_bodies s0).1, .inl (No_bodies s0).2)), ((ad0 6), .inl (cA 0, (No_needed s0).1, .inl (No_needed s0).2)), ((ad0 7), .inl (cA 0, a11.1, .inl a11.2)), ((ob0 1), .inr (0, [.ref (ad0 8), .ref (ad0 9), .int (Fi_used (No_fields s0)), .ref (ad0 10), .ref (ad0 11), .int (Fi_nextUsed (No_fields s0))])), ((ad0 8), .inl (cA 0, (Fi_features (No_fields s0)).1, .inl (Fi_features (No_fields s0)).2)), ((ad0 9), .inl (cA 0, (Fi_parts (No_fields s0)).1, .inl (Fi_parts (No_fields s0)).2)), ((ad0 10), .inl (cA 0, (Fi_nextFeatures (No_fields s0)).1, .inl (Fi_nextFeatures (No_fields s0)).2)), ((ad0 11), .inl (cA 0, (Fi_nextParts (No_fields s0)).1, .inl (Fi_nextParts (No_fields s0)).2)), ((ob0 2), .inr (1, [.ref (ad0 12), .int (Ld_size (No_reached s0))])), ((ad0 12), .inl (cA 0, (Ld_row (No_reached s0)).1, .inl (Ld_row (No_reached s0)).2))]) F 8 rfl e_a11 b_a11 rfl d_No_markLeader_15 ?_
    refine x_aload_n F d_No_markLeader_16 0 rfl rfl ?_
    refine x_get F ck_No hin_No 0 13 rfl (by decide) kw_150 rfl rfl d_No_markLeader_17 ?_
    refine x_iload_n F d_No_markLeader_20 1 rfl rfl ?_
    replace hm := xm_b_some hm
    obtain ⟨o12, k13, k14, h15, hm, c_o12, d_o12⟩ := hm
    refine x_callV (n := 1) (C := R_Ld) (wr := [((ob0 0), .inr (3, [.ref (ad0 0), .ref (ad0 1), .ref (ad0 2), .ref (ad0 3), .ref (ad0 4), .ref (ad0 5), .ref (ad0 6), .ref (ad0 7), .int (No_top s0), .int (No_lowest s0), .int (No_alive s0), .int (No_marks s0), .ref (ob0 1), .ref (ob0 2)])), ((ad0 0), .inl (cA 0, (No_kinds s0).1, .inl (No_kinds s0).2)), ((ad0 1), .inl (cA 0, (No_values s0).1, .inl (No_values s0).2)), ((ad0 2), .inl (cA 0, (No_starts s0).1, .inl (No_starts s0).2)), ((ad0 3), .inl (cA 0, (No_sizes s0).1, .inl (No_sizes s0).2)), ((ad0 4), .inl (cA 0, (No_lead s0).1, .inl (No_lead s0).2)), ((ad0 5), .inl (cA 0, (No_bodies s0).1, .inl (No_bodies s0).2)), ((ad0 6), .inl (cA 0, (No_needed s0).1, .inl (No_needed s0).2)), ((ad0 7), .inl (cA 0, a11.1, .inl a11.2)), ((ob0 1), .inr (0, [.ref (ad0 8), .ref (ad0 9), .int (Fi_used (No_fields s0)), .ref (ad0 10), .ref (ad0 11), .int (Fi_nextUsed (No_fields s0))])), ((ad0 8), .inl (cA 0, (Fi_features (No_fields s0)).1, .inl (Fi_features (No_fields s0)).2)), ((ad0 9), .inl (cA 0, (Fi_parts (No_fields s0)).1, .inl (Fi_parts (No_fields s0)).2)), ((ad0 10), .inl (cA 0, (Fi_nextFeatures (No_fields s0)).1, .inl (Fi_nextFeatures (No_fields s0)).2)), ((ad0 11), .inl (cA 0, (Fi_nextParts (No_fields s0)).1, .inl (Fi_nextParts (No_fields s0)).2))]) F (c_Ld_append l D cA n (fun i => ob0 (i + 2)) (fun i => ad0 (i + 12)) (No_reached s0) p0 o12 k13 h15) kw_452 kw_571 kw_450 kw_451 kw_42 ⟨rfl, by decide, by decide, by decide +kernel⟩ rfl (by decide) (by decide) (ci := 1) rfl rfl 0 rfl [14, 15] [0, 1, 2, 3, 4, 5, 6, 7, 8, 9, 10, 11, 12, 13] rfl rfl (by decide) (by decide) (by decide) rfl (Nat.le_of_ble_eq_true rfl) (by omega) (by omega) d_No_markLeader_21 (fun ad16 => ?_)
    refine x_nf (ws' := [((ob0 0), .inr (3, [.ref (ad0 0), .ref (ad0 1), .ref (ad0 2), .ref (ad0 3), .ref (ad0 4), .ref (ad0 5), .ref (ad0 6), .ref (ad0 7), .int (No_top s0), .int (No_lowest s0), .int (No_alive s0), .int (No_marks s0), .ref (ob0 1), .ref (ob0 2)])), ((ad0 0), .inl (cA 0, (No_kinds s0).1, .inl (No_kinds s0).2)), ((ad0 1), .inl (cA 0, (No_values s0).1, .inl (No_values s0).2)), ((ad0 2), .inl (cA 0, (No_starts s0).1, .inl (No_starts s0).2)), ((ad0 3), .inl (cA 0, (No_sizes s0).1, .inl (No_sizes s0).2)), ((ad0 4), .inl (cA 0, (No_lead s0).1, .inl (No_lead s0).2)), ((ad0 5), .inl (cA 0, (No_bodies s0).1, .inl (No_bodies s0).2)), ((ad0 6), .inl (cA 0, (No_needed s0).1, .inl (No_needed s0).2)), ((ad0 7), .inl (cA 0, a11.1, .inl a11.2)), ((ob0 1), .inr (0, [.ref (ad0 8), .ref (ad0 9), .int (Fi_used (No_fields s0)), .ref (ad0 10), .ref (ad0 11), .int (Fi_nextUsed (No_fields s0))])), ((ad0 8), .inl (cA 0, (Fi_features (No_fields s0)).1, .inl (Fi_features (No_fields s0)).2)), ((ad0 9), .inl (cA 0, (Fi_parts (No_fields s0)).1, .inl (Fi_parts (No_fields s0)).2)), ((ad0 10), .inl (cA 0, (Fi_nextFeatures (No_fields s0)).1, .inl (Fi_nextFeatures (No_fields s0)).2)), ((ad0 11), .inl (cA 0, (Fi_nextParts (No_fields s0)).1, .inl (Fi_nextParts (No_fields s0)).2)), ((ob0 2), .inr (1, [.ref (ad16 0), .int (Ld_size o12)])), ((ad16 0), .inl (cA 0, (Ld_row o12).1, .inl (Ld_row o12).2))]) (st' := []) rfl rfl ?_
    replace hm := xm_p_some hm
    obtain ⟨eo, c_o, d_o⟩ := hm
    subst eo
    refine x_sub [0, 1, 2, 3, 4, 5, 6, 7, 8, 9, 10, 11, 12, 13, 14, 15] (by decide) ?_ (xe_v E (xa [(ad0 0), (ad0 1), (ad0 2), (ad0 3), (ad0 4), (ad0 5), (ad0 6), (ad0 7), (ad0 8), (ad0 9), (ad0 10), (ad0 11), (ad16 0)]) (by omega) (by omega)  d_No_markLeader_24)
    rfl

noncomputable def L_No_markAllLed_7  (n i : Nat) : Int32 → S_No → MO (Int32 × S_No) := Nat.rec (motive := fun _ => Int32 → S_No → MO (Int32 × S_No)) (fun _ _ => none) (fun _ ih x1 s0 => (if (No_top s0) ≤ x1 then (xm_p ((x1, s0))) else (xm_b (m_No_has n s0 x1) (fun o13 => (if o13 = 0 then (ih (x1 + 1) s0) else (xm_rd (No_lead s0) x1 (fun v19 => (xm_rd (No_marked s0) v19 (fun v20 => (if v20 = (1 : Int32) then (xm_wr (No_marked s0) x1 (1 : Int32) (fun a22 => (ih (x1 + 1) ((No_kinds s0), (No_values s0), (No_starts s0), (No_sizes s0), (No_lead s0), (No_bodies s0), (No_needed s0), a22, (No_top s0), (No_lowest s0), (No_alive s0), ((No_marks s0) + (1 : Int32)), (No_fields s0), (No_reached s0))))) else (ih (x1 + 1) s0))))))))))) i
theorem L_No_markAllLed_7_s  (n i : Nat) (x1 : Int32) (s0 : S_No) : L_No_markAllLed_7  n (i + 1) x1 s0 = (if (No_top s0) ≤ x1 then (xm_p ((x1, s0))) else (xm_b (m_No_has n s0 x1) (fun o13 => (if o13 = 0 then (L_No_markAllLed_7  n i (x1 + 1) s0) else (xm_rd (No_lead s0) x1 (fun v19 => (xm_rd (No_marked s0) v19 (fun v20 => (if v20 = (1 : Int32) then (xm_wr (No_marked s0) x1 (1 : Int32) (fun a22 => (L_No_markAllLed_7  n i (x1 + 1) ((No_kinds s0), (No_values s0), (No_starts s0), (No_sizes s0), (No_lead s0), (No_bodies s0), (No_needed s0), a22, (No_top s0), (No_lowest s0), (No_alive s0), ((No_marks s0) + (1 : Int32)), (No_fields s0), (No_reached s0))))) else (L_No_markAllLed_7  n i (x1 + 1) s0)))))))))) := rfl
noncomputable def m_No_markAllLed (n : Nat) (s0 : S_No)  : MO (S_No) := (xm_b (L_No_markAllLed_7  n n (0 : Int32) ((No_kinds s0), (No_values s0), (No_starts s0), (No_sizes s0), (No_lead s0), (No_bodies s0), (No_needed s0), (No_marked s0), (No_top s0), (No_lowest s0), (No_alive s0), (0 : Int32), (No_fields s0), (No_reached s0))) (fun o23 => (xm_p (o23.2))))
set_option maxHeartbeats 4000000 in
set_option maxRecDepth 100000 in
theorem wl_No_markAllLed_7 {X : XT} {l : Launch} {D : va_G} {cA : Nat → ClassId} {mc ms : Nat} (F : XF X l D cA b_No_markAllLed 2 none R_No 1 21 mc ms) (n : Nat) (ob0 : Nat → Nat)    : ∀ (i : Nat) (x1 : Int32) (s0 : S_No) (ad0 : Nat → Nat) (nc ns : Nat) (out : Int32 × S_No) (k : KC), L_No_markAllLed_7  n i x1 s0 = some (out, k) → nc + k.1 ≤ mc → ns + k.2 ≤ ms → (∀ ad : Nat → Nat, XW X 2 ((w_No cA ob0 ad  (out.2))) (nc + k.1) (ns + k.2) 61 [(0, .ref (ob0 0)), (1, .int (out.1))] []) → XW X 2 ((w_No cA ob0 ad0  s0)) nc ns 7 [(0, .ref (ob0 0)), (1, .int x1)] [] := by
  intro i
  induction i with
  | zero =>
    intro x1 s0 ad0 nc ns out k hm
    replace hm : (none : MO (Int32 × S_No)) = some (out, k) := hm
    cases hm
  | succ i ih =>
    intro x1 s0 ad0 nc ns out k hm hc hs KX
    rw [L_No_markAllLed_7_s] at hm
    refine x_ws (ws' := [((ob0 0), .inr (3, [.ref (ad0 0), .ref (ad0 1), .ref (ad0 2), .ref (ad0 3), .ref (ad0 4), .ref (ad0 5), .ref (ad0 6), .ref (ad0 7), .int (No_top s0), .int (No_lowest s0), .int (No_alive s0), .int (No_marks s0), .ref (ob0 1), .ref (ob0 2)])), ((ad0 0), .inl (cA 0, (No_kinds s0).1, .inl (No_kinds s0).2)), ((ad0 1), .inl (cA 0, (No_values s0).1, .inl (No_values s0).2)), ((ad0 2), .inl (cA 0, (No_starts s0).1, .inl (No_starts s0).2)), ((ad0 3), .inl (cA 0, (No_sizes s0).1, .inl (No_sizes s0).2)), ((ad0 4), .inl (cA 0, (No_lead s0).1, .inl (No_lead s0).2)), ((ad0 5), .inl (cA 0, (No_bodies s0).1, .inl (No_bodies s0).2)), ((ad0 6), .inl (cA 0, (No_needed s0).1, .inl (No_needed s0).2)), ((ad0 7), .inl (cA 0, (No_marked s0).1, .inl (No_marked s0).2)), ((ob0 1), .inr (0, [.ref (ad0 8), .ref (ad0 9), .int (Fi_used (No_fields s0)), .ref (ad0 10), .ref (ad0 11), .int (Fi_nextUsed (No_fields s0))])), ((ad0 8), .inl (cA 0, (Fi_features (No_fields s0)).1, .inl (Fi_features (No_fields s0)).2)), ((ad0 9), .inl (cA 0, (Fi_parts (No_fields s0)).1, .inl (Fi_parts (No_fields s0)).2)), ((ad0 10), .inl (cA 0, (Fi_nextFeatures (No_fields s0)).1, .inl (Fi_nextFeatures (No_fields s0)).2)), ((ad0 11), .inl (cA 0, (Fi_nextParts (No_fields s0)).1, .inl (Fi_nextParts (No_fields s0)).2)), ((ob0 2), .inr (1, [.ref (ad0 12), .int (Ld_size (No_reached s0))])), ((ad0 12), .inl (cA 0, (Ld_row (No_reached s0)).1, .inl (Ld_row (No_reached s0)).2))]) rfl ?_
    refine x_iload_n F d_No_markAllLed_7 1 rfl rfl ?_
    refine x_aload_n F d_No_markAllLed_8 0 rfl rfl ?_
    refine x_get F ck_No hin_No 0 8 rfl (by decide) kw_139 rfl rfl d_No_markAllLed_9 ?_
    refine x_icmp_ge F 61 d_No_markAllLed_12 (by decide) (fun c12 => ?_) (fun c12 => ?_)
    · replace hm := xm_t hm c12
      replace hm := xm_p_some hm
      obtain ⟨eo, c_o, d_o⟩ := hm
      subst eo
      refine x_sub [0, 1, 2, 3, 4, 5, 6, 7, 8, 9, 10, 11, 12, 13, 14, 15] (by decide) ?_ (x_lv [0, 1] ?_ (x_cs (by omega) (by omega) (KX ad0)))
      · rfl
      · rfl
    · replace hm := xm_f hm c12
      refine x_aload_n F d_No_markAllLed_15 0 rfl rfl ?_
      refine x_iload_n F d_No_markAllLed_16 1 rfl rfl ?_
      replace hm := xm_b_some hm
      obtain ⟨o13, k14, k15, h16, hm, c_o13, d_o13⟩ := hm
      refine x_callV (n := 1) (C := R_No) (wr := []) F (c_No_has l D cA n ob0 ad0 s0 x1 o13 k14 h16) kw_363 kw_577 kw_361 kw_362 kw_40 ⟨rfl, by decide, by decide, by decide +kernel⟩ rfl (by decide) (by decide) (ci := 3) rfl rfl 0 rfl [0, 1, 2, 3, 4, 5, 6, 7, 8, 9, 10, 11, 12, 13, 14, 15] [] rfl rfl (by decide) (by decide) (by decide) rfl (Nat.le_of_ble_eq_true rfl) (by omega) (by omega) d_No_markAllLed_17 (fun ad17 => ?_)
      refine x_nf (ws' := [((ob0 0), .inr (3, [.ref (ad0 0), .ref (ad0 1), .ref (ad0 2), .ref (ad0 3), .ref (ad0 4), .ref (ad0 5), .ref (ad0 6), .ref (ad0 7), .int (No_top s0), .int (No_lowest s0), .int (No_alive s0), .int (No_marks s0), .ref (ob0 1), .ref (ob0 2)])), ((ad0 0), .inl (cA 0, (No_kinds s0).1, .inl (No_kinds s0).2)), ((ad0 1), .inl (cA 0, (No_values s0).1, .inl (No_values s0).2)), ((ad0 2), .inl (cA 0, (No_starts s0).1, .inl (No_starts s0).2)), ((ad0 3), .inl (cA 0, (No_sizes s0).1, .inl (No_sizes s0).2)), ((ad0 4), .inl (cA 0, (No_lead s0).1, .inl (No_lead s0).2)), ((ad0 5), .inl (cA 0, (No_bodies s0).1, .inl (No_bodies s0).2)), ((ad0 6), .inl (cA 0, (No_needed s0).1, .inl (No_needed s0).2)), ((ad0 7), .inl (cA 0, (No_marked s0).1, .inl (No_marked s0).2)), ((ob0 1), .inr (0, [.ref (ad0 8), .ref (ad0 9), .int (Fi_used (No_fields s0)), .ref (ad0 10), .ref (ad0 11), .int (Fi_nextUsed (No_fields s0))])), ((ad0 8), .inl (cA 0, (Fi_features (No_fields s0)).1, .inl (Fi_features (No_fields s0)).2)), ((ad0 9), .inl (cA 0, (Fi_parts (No_fields s0)).1, .inl (Fi_parts (No_fields s0)).2)), ((ad0 10), .inl (cA 0, (Fi_nextFeatures (No_fields s0)).1, .inl (Fi_nextFeatures (No_fields s0)).2)), ((ad0 11), .inl (cA 0, (Fi_nextParts (No_fields s0)).1, .inl (Fi_nextParts (No_fields s0)).2)), ((ob0 2), .inr (1, [.ref (ad0 12), .int (Ld_size (No_reached s0))])), ((ad0 12), .inl (cA 0, (Ld_row (No_reached s0)).1, .inl (Ld_row (No_reached s0)).2))]) (st' := [.int o13]) rfl rfl ?_
      refine x_if_eq F 55 d_No_markAllLed_20 (by decide) (fun c18 => ?_) (fun c18 => ?_)
      · replace hm := xm_t hm c18
        refine x_iinc (v := (x1 + 1)) (lv' := [(1, .int (x1 + 1)), (0, .ref (ob0 0))]) F d_No_markAllLed_55 1 rfl rfl (by decide) rfl ?_
        refine x_goto F 7 d_No_markAllLed_58 (by decide) ?_
        refine x_sub [0, 1, 2, 3, 4, 5, 6, 7, 8, 9, 10, 11, 12, 13, 14, 15] (by decide) ?_ (x_lv [1, 0] ?_ (ih (x1 + 1) s0 ad0 _ _ out k15 hm (by omega) (by omega) (fun ad => x_cs (by omega) (by omega) (KX ad))))
        · rfl
        · rfl
      · replace hm := xm_f hm c18
        refine x_aload_n F d_No_markAllLed_23 0 rfl rfl ?_
        refine x_get F ck_No hin_No 0 7 rfl (by decide) kw_138 rfl rfl d_No_markAllLed_24 ?_
        refine x_aload_n F d_No_markAllLed_27 0 rfl rfl ?_
        refine x_get F ck_No hin_No 0 4 rfl (by decide) kw_127 rfl rfl d_No_markAllLed_28 ?_
        refine x_iload_n F d_No_markAllLed_31 1 rfl rfl ?_
        replace hm := xm_rd_some hm
        obtain ⟨v19, e_v19, b_v19, hm⟩ := hm
        refine x_iald (x := (No_lead s0)) F 5 rfl e_v19 b_v19 d_No_markAllLed_32 ?_
        replace hm := xm_rd_some hm
        obtain ⟨v20, e_v20, b_v20, hm⟩ := hm
        refine x_iald (x := (No_marked s0)) F 8 rfl e_v20 b_v20 d_No_markAllLed_33 ?_
        refine x_iconst (v := (1 : Int32)) F d_No_markAllLed_34 (by decide) ?_
        refine x_icmp_ne F 55 d_No_markAllLed_35 (by decide) (fun c21 => ?_) (fun c21 => ?_)
        · replace hm := xm_f hm c21
          refine x_iinc (v := (x1 + 1)) (lv' := [(1, .int (x1 + 1)), (0, .ref (ob0 0))]) F d_No_markAllLed_55 1 rfl rfl (by decide) rfl ?_
          refine x_goto F 7 d_No_markAllLed_58 (by decide) ?_
          refine x_sub [0, 1, 2, 3, 4, 5, 6, 7, 8, 9, 10, 11, 12, 13, 14, 15] (by decide) ?_ (x_lv [1, 0] ?_ (ih (x1 + 1) s0 ad0 _ _ out k15 hm (by omega) (by omega) (fun ad => x_cs (by omega) (by omega) (KX ad))))
          · rfl
          · rfl
        · replace hm := xm_t hm c21
          refine x_aload_n F d_No_markAllLed_38 0 rfl rfl ?_
          refine x_get F ck_No hin_No 0 7 rfl (by decide) kw_138 rfl rfl d_No_markAllLed_39 ?_
          refine x_iload_n F d_No_markAllLed_42 1 rfl rfl ?_
          refine x_iconst (v := (1 : Int32)) F d_No_markAllLed_43 (by decide) ?_
          replace hm := xm_wr_some hm
          obtain ⟨a22, e_a22, b_a22, hm⟩ := hm
          refine x_iast (x := (No_marked s0)) (x' := a22) (ws' := [((ob0 0), .inr (3, [.ref (ad0 0), .ref (ad0 1), .ref (ad0 2), .ref (ad0 3), .ref (ad0 4), .ref (ad0 5), .ref (ad0 6), .ref (ad0 7), .int (No_top s0), .int (No_lowest s0), .int (No_alive s0), .int (No_marks s0), .ref (ob0 1), .ref (ob0 2)])), ((ad0 0), .inl (cA 0, (No_kinds s0).1, .inl (No_kinds s0).2)), ((ad0 1), .inl (cA 0, (No_values s0).1, .inl (No_values s0).2)), ((ad0 2), .inl (cA 0, (No_starts s0).1, .inl (No_starts s0).2)), ((ad0 3), .inl (cA 0, (No_sizes s0).1, .inl (No_sizes s0).2)), ((ad0 4), .inl (cA 0, (No_lead s0).1, .inl (No_lead s0).2)), ((ad0 5), .inl (cA 0, (No_bodies s0).1, .inl (No_bodies s0).2)), ((ad0 6), .inl (cA 0, (No_needed s0).1, .inl (No_needed s0).2)), ((ad0 7), .inl (cA 0, a22.1, .inl a22.2)), ((ob0 1), .inr (0, [.ref (ad0 8), .ref (ad0 9), .int (Fi_used (No_fields s0)), .ref (ad0 10), .ref (ad0 11), .int (Fi_nextUsed (No_fields s0))])), ((ad0 8), .inl (cA 0, (Fi_features (No_fields s0)).1, .inl (Fi_features (No_fields s0)).2)), ((ad0 9), .inl (cA 0, (Fi_parts (No_fields s0)).1, .inl (Fi_parts (No_fields s0)).2)), ((ad0 10), .inl (cA 0, (Fi_nextFeatures (No_fields s0)).1, .inl (Fi_nextFeatures (No_fields s0)).2)), ((ad0 11), .inl (cA 0, (Fi_nextParts (No_fields s0)).1, .inl (Fi_nextParts (No_fields s0)).2)), ((ob0 2), .inr (1, [.ref (ad0 12), .int (Ld_size (No_reached s0))])), ((ad0 12), .inl (cA 0, (Ld_row (No_reached s0)).1, .inl (Ld_row (No_reached s0)).2))]) F 8 rfl e_a22 b_a22 rfl d_No_markAllLed_44 ?_
          refine x_aload_n F d_No_markAllLed_45 0 rfl rfl ?_
          refine x_dup F d_No_markAllLed_46 rfl ?_
          refine x_get F ck_No hin_No 0 11 rfl (by decide) kw_145 rfl rfl d_No_markAllLed_47 ?_
          refine x_iconst (v := (1 : Int32)) F d_No_markAllLed_50 (by decide) ?_
          refine x_iadd F d_No_markAllLed_51 ?_
          refine x_put (ws' := [((ob0 0), .inr (3, [.ref (ad0 0), .ref (ad0 1), .ref (ad0 2), .ref (ad0 3), .ref (ad0 4), .ref (ad0 5), .ref (ad0 6), .ref (ad0 7), .int (No_top s0), .int (No_lowest s0), .int (No_alive s0), .int ((No_marks s0) + (1 : Int32)), .ref (ob0 1), .ref (ob0 2)])), ((ad0 0), .inl (cA 0, (No_kinds s0).1, .inl (No_kinds s0).2)), ((ad0 1), .inl (cA 0, (No_values s0).1, .inl (No_values s0).2)), ((ad0 2), .inl (cA 0, (No_starts s0).1, .inl (No_starts s0).2)), ((ad0 3), .inl (cA 0, (No_sizes s0).1, .inl (No_sizes s0).2)), ((ad0 4), .inl (cA 0, (No_lead s0).1, .inl (No_lead s0).2)), ((ad0 5), .inl (cA 0, (No_bodies s0).1, .inl (No_bodies s0).2)), ((ad0 6), .inl (cA 0, (No_needed s0).1, .inl (No_needed s0).2)), ((ad0 7), .inl (cA 0, a22.1, .inl a22.2)), ((ob0 1), .inr (0, [.ref (ad0 8), .ref (ad0 9), .int (Fi_used (No_fields s0)), .ref (ad0 10), .ref (ad0 11), .int (Fi_nextUsed (No_fields s0))])), ((ad0 8), .inl (cA 0, (Fi_features (No_fields s0)).1, .inl (Fi_features (No_fields s0)).2)), ((ad0 9), .inl (cA 0, (Fi_parts (No_fields s0)).1, .inl (Fi_parts (No_fields s0)).2)), ((ad0 10), .inl (cA 0, (Fi_nextFeatures (No_fields s0)).1, .inl (Fi_nextFeatures (No_fields s0)).2)), ((ad0 11), .inl (cA 0, (Fi_nextParts (No_fields s0)).1, .inl (Fi_nextParts (No_fields s0)).2)), ((ob0 2), .inr (1, [.ref (ad0 12), .int (Ld_size (No_reached s0))])), ((ad0 12), .inl (cA 0, (Ld_row (No_reached s0)).1, .inl (Ld_row (No_reached s0)).2))]) F ck_No hin_No 0 11 rfl (by decide) kw_145 rfl rfl rfl rfl (Nat.le_of_ble_eq_true rfl) rfl d_No_markAllLed_52 ?_
          refine x_iinc (v := (x1 + 1)) (lv' := [(1, .int (x1 + 1)), (0, .ref (ob0 0))]) F d_No_markAllLed_55 1 rfl rfl (by decide) rfl ?_
          refine x_goto F 7 d_No_markAllLed_58 (by decide) ?_
          refine x_sub [0, 1, 2, 3, 4, 5, 6, 7, 8, 9, 10, 11, 12, 13, 14, 15] (by decide) ?_ (x_lv [1, 0] ?_ (ih (x1 + 1) ((No_kinds s0), (No_values s0), (No_starts s0), (No_sizes s0), (No_lead s0), (No_bodies s0), (No_needed s0), a22, (No_top s0), (No_lowest s0), (No_alive s0), ((No_marks s0) + (1 : Int32)), (No_fields s0), (No_reached s0)) ad0 _ _ out k15 hm (by omega) (by omega) (fun ad => x_cs (by omega) (by omega) (KX ad))))
          · rfl
          · rfl
set_option maxHeartbeats 4000000 in
set_option maxRecDepth 100000 in
theorem c_No_markAllLed (l : Launch) (D : va_G) (cA : Nat → ClassId) (n : Nat) (ob0 ad0 : Nat → Nat) (s0 : S_No)  (out : S_No) (k : KC) (hm : m_No_markAllLed n s0  = some (out, k)) : XM l D cA y_No_markAllLed b_No_markAllLed 2 none 1 21 [.ref (ob0 0)] ((w_No cA ob0 ad0  s0)) k (fun _ => none) (fun ad => (w_No cA ob0 ad  out)) := by
  refine x_met (cc := b_No_markAllLed) (nL := 2) (ret := none) R_No (by decide) (Nat.le_of_ble_eq_true rfl) rfl (fun X F I E => ?_)
  unfold m_No_markAllLed at hm
  refine x_nf2 (ws' := [((ob0 0), .inr (3, [.ref (ad0 0), .ref (ad0 1), .ref (ad0 2), .ref (ad0 3), .ref (ad0 4), .ref (ad0 5), .ref (ad0 6), .ref (ad0 7), .int (No_top s0), .int (No_lowest s0), .int (No_alive s0), .int (No_marks s0), .ref (ob0 1), .ref (ob0 2)])), ((ad0 0), .inl (cA 0, (No_kinds s0).1, .inl (No_kinds s0).2)), ((ad0 1), .inl (cA 0, (No_values s0).1, .inl (No_values s0).2)), ((ad0 2), .inl (cA 0, (No_starts s0).1, .inl (No_starts s0).2)), ((ad0 3), .inl (cA 0, (No_sizes s0).1, .inl (No_sizes s0).2)), ((ad0 4), .inl (cA 0, (No_lead s0).1, .inl (No_lead s0).2)), ((ad0 5), .inl (cA 0, (No_bodies s0).1, .inl (No_bodies s0).2)), ((ad0 6), .inl (cA 0, (No_needed s0).1, .inl (No_needed s0).2)), ((ad0 7), .inl (cA 0, (No_marked s0).1, .inl (No_marked s0).2)), ((ob0 1), .inr (0, [.ref (ad0 8), .ref (ad0 9), .int (Fi_used (No_fields s0)), .ref (ad0 10), .ref (ad0 11), .int (Fi_nextUsed (No_fields s0))])), ((ad0 8), .inl (cA 0, (Fi_features (No_fields s0)).1, .inl (Fi_features (No_fields s0)).2)), ((ad0 9), .inl (cA 0, (Fi_parts (No_fields s0)).1, .inl (Fi_parts (No_fields s0)).2)), ((ad0 10), .inl (cA 0, (Fi_nextFeatures (No_fields s0)).1, .inl (Fi_nextFeatures (No_fields s0)).2)), ((ad0 11), .inl (cA 0, (Fi_nextParts (No_fields s0)).1, .inl (Fi_nextParts (No_fields s0)).2)), ((ob0 2), .inr (1, [.ref (ad0 12), .int (Ld_size (No_reached s0))])), ((ad0 12), .inl (cA 0, (Ld_row (No_reached s0)).1, .inl (Ld_row (No_reached s0)).2))]) (lv' := [(0, .ref (ob0 0))]) rfl rfl ?_
  refine x_aload_n F d_No_markAllLed_0 0 rfl rfl ?_
  refine x_iconst (v := (0 : Int32)) F d_No_markAllLed_1 (by decide) ?_
  refine x_put (ws' := [((ob0 0), .inr (3, [.ref (ad0 0), .ref (ad0 1), .ref (ad0 2), .ref (ad0 3), .ref (ad0 4), .ref (ad0 5), .ref (ad0 6), .ref (ad0 7), .int (No_top s0), .int (No_lowest s0), .int (No_alive s0), .int (0 : Int32), .ref (ob0 1), .ref (ob0 2)])), ((ad0 0), .inl (cA 0, (No_kinds s0).1, .inl (No_kinds s0).2)), ((ad0 1), .inl (cA 0, (No_values s0).1, .inl (No_values s0).2)), ((ad0 2), .inl (cA 0, (No_starts s0).1, .inl (No_starts s0).2)), ((ad0 3), .inl (cA 0, (No_sizes s0).1, .inl (No_sizes s0).2)), ((ad0 4), .inl (cA 0, (No_lead s0).1, .inl (No_lead s0).2)), ((ad0 5), .inl (cA 0, (No_bodies s0).1, .inl (No_bodies s0).2)), ((ad0 6), .inl (cA 0, (No_needed s0).1, .inl (No_needed s0).2)), ((ad0 7), .inl (cA 0, (No_marked s0).1, .inl (No_marked s0).2)), ((ob0 1), .inr (0, [.ref (ad0 8), .ref (ad0 9), .int (Fi_used (No_fields s0)), .ref (ad0 10), .ref (ad0 11), .int (Fi_nextUsed (No_fields s0))])), ((ad0 8), .inl (cA 0, (Fi_features (No_fields s0)).1, .inl (Fi_features (No_fields s0)).2)), ((ad0 9), .inl (cA 0, (Fi_parts (No_fields s0)).1, .inl (Fi_parts (No_fields s0)).2)), ((ad0 10), .inl (cA 0, (Fi_nextFeatures (No_fields s0)).1, .inl (Fi_nextFeatures (No_fields s0)).2)), ((ad0 11), .inl (cA 0, (Fi_nextParts (No_fields s0)).1, .inl (Fi_nextParts (No_fields s0)).2)), ((ob0 2), .inr (1, [.ref (ad0 12), .int (Ld_size (No_reached s0))])), ((ad0 12), .inl (cA 0, (Ld_row (No_reached s0)).1, .inl (Ld_row (No_reached s0)).2))]) F ck_No hin_No 0 11 rfl (by decide) kw_145 rfl rfl rfl rfl (Nat.le_of_ble_eq_true rfl) rfl d_No_markAllLed_2 ?_
  refine x_iconst (v := (0 : Int32)) F d_No_markAllLed_5 (by decide) ?_
  refine x_istore_n (lv' := [(1, .int (0 : Int32)), (0, .ref (ob0 0))]) F d_No_markAllLed_6 rfl (by decide) rfl ?_
  replace hm := xm_b_some hm
  obtain ⟨o23, k24, k25, h26, hm, c_o23, d_o23⟩ := hm
  refine x_sub [0, 1, 2, 3, 4, 5, 6, 7, 8, 9, 10, 11, 12, 13, 14, 15] (by decide) ?_ (x_lv [1, 0] ?_ (wl_No_markAllLed_7 F n ob0   n (0 : Int32) ((No_kinds s0), (No_values s0), (No_starts s0), (No_sizes s0), (No_lead s0), (No_bodies s0), (No_needed s0), (No_marked s0), (No_top s0), (No_lowest s0), (No_alive s0), (0 : Int32), (No_fields s0), (No_reached s0)) ad0 _ _ o23 k24 h26 (by omega) (by omega) (fun ad27 => ?_)))
  · rfl
  · rfl
  refine x_nf2 (ws' := [((ob0 0), .inr (3, [.ref (ad27 0), .ref (ad27 1), .ref (ad27 2), .ref (ad27 3), .ref (ad27 4), .ref (ad27 5), .ref (ad27 6), .ref (ad27 7), .int (No_top (o23.2)), .int (No_lowest (o23.2)), .int (No_alive (o23.2)), .int (No_marks (o23.2)), .ref (ob0 1), .ref (ob0 2)])), ((ad27 0), .inl (cA 0, (No_kinds (o23.2)).1, .inl (No_kinds (o23.2)).2)), ((ad27 1), .inl (cA 0, (No_values (o23.2)).1, .inl (No_values (o23.2)).2)), ((ad27 2), .inl (cA 0, (No_starts (o23.2)).1, .inl (No_starts (o23.2)).2)), ((ad27 3), .inl (cA 0, (No_sizes (o23.2)).1, .inl (No_sizes (o23.2)).2)), ((ad27 4), .inl (cA 0, (No_lead (o23.2)).1, .inl (No_lead (o23.2)).2)), ((ad27 5), .inl (cA 0, (No_bodies (o23.2)).1, .inl (No_bodies (o23.2)).2)), ((ad27 6), .inl (cA 0, (No_needed (o23.2)).1, .inl (No_needed (o23.2)).2)), ((ad27 7), .inl (cA 0, (No_marked (o23.2)).1, .inl (No_marked (o23.2)).2)), ((ob0 1), .inr (0, [.ref (ad27 8), .ref (ad27 9), .int (Fi_used (No_fields (o23.2))), .ref (ad27 10), .ref (ad27 11), .int (Fi_nextUsed (No_fields (o23.2)))])), ((ad27 8), .inl (cA 0, (Fi_features (No_fields (o23.2))).1, .inl (Fi_features (No_fields (o23.2))).2)), ((ad27 9), .inl (cA 0, (Fi_parts (No_fields (o23.2))).1, .inl (Fi_parts (No_fields (o23.2))).2)), ((ad27 10), .inl (cA 0, (Fi_nextFeatures (No_fields (o23.2))).1, .inl (Fi_nextFeatures (No_fields (o23.2))).2)), ((ad27 11), .inl (cA 0, (Fi_nextParts (No_fields (o23.2))).1, .inl (Fi_nextParts (No_fields (o23.2))).2)), ((ob0 2), .inr (1, [.ref (ad27 12), .int (Ld_size (No_reached (o23.2)))])), ((ad27 12), .inl (cA 0, (Ld_row (No_reached (o23.2))).1, .inl (Ld_row (No_reached (o23.2))).2))]) (lv' := [(0, .ref (ob0 0)), (1, .int (o23.1))]) rfl rfl ?_
  replace hm := xm_p_some hm
  obtain ⟨eo, c_o, d_o⟩ := hm
  subst eo
  refine x_sub [0, 1, 2, 3, 4, 5, 6, 7, 8, 9, 10, 11, 12, 13, 14, 15] (by decide) ?_ (xe_v E ad27 (by omega) (by omega)  d_No_markAllLed_61)
  rfl

noncomputable def L_No_markFrom_54 (y1 : Int32) (y2 : Int32) (y3 : Int32) (n i : Nat) : Int32 → S_No → MO (Int32 × S_No) := Nat.rec (motive := fun _ => Int32 → S_No → MO (Int32 × S_No)) (fun _ _ => none) (fun _ ih x4 s0 => (xm_rd (No_sizes s0) y3 (fun v49 => (if v49 ≤ x4 then (xm_p ((x4, s0))) else (xm_rd (No_starts s0) y3 (fun v51 => (xm_b (m_No_partLeader n s0 (v51 + x4)) (fun o52 => (xm_b (m_No_markLeader n s0 o52) (fun o57 => (ih (x4 + 1) o57))))))))))) i
theorem L_No_markFrom_54_s (y1 : Int32) (y2 : Int32) (y3 : Int32) (n i : Nat) (x4 : Int32) (s0 : S_No) : L_No_markFrom_54 y1 y2 y3 n (i + 1) x4 s0 = (xm_rd (No_sizes s0) y3 (fun v49 => (if v49 ≤ x4 then (xm_p ((x4, s0))) else (xm_rd (No_starts s0) y3 (fun v51 => (xm_b (m_No_partLeader n s0 (v51 + x4)) (fun o52 => (xm_b (m_No_markLeader n s0 o52) (fun o57 => (L_No_markFrom_54 y1 y2 y3 n i (x4 + 1) o57)))))))))) := rfl
noncomputable def L_No_markFrom_19 (y1 : Int32) (n i : Nat) : Int32 → S_No → MO (Int32 × S_No) := Nat.rec (motive := fun _ => Int32 → S_No → MO (Int32 × S_No)) (fun _ _ => none) (fun _ ih x2 s0 => (if (32768 : Int32) ≤ x2 then (xm_p ((x2, s0))) else (if (Ld_size (No_reached s0)) ≤ x2 then (xm_p ((x2, s0))) else (xm_rd (Ld_row (No_reached s0)) x2 (fun v47 => (xm_rd (No_bodies s0) v47 (fun v48 => (xm_b (L_No_markFrom_54 y1 x2 v48 n n (0 : Int32) s0) (fun o62 => (ih (x2 + 1) (o62.2))))))))))) i
theorem L_No_markFrom_19_s (y1 : Int32) (n i : Nat) (x2 : Int32) (s0 : S_No) : L_No_markFrom_19 y1 n (i + 1) x2 s0 = (if (32768 : Int32) ≤ x2 then (xm_p ((x2, s0))) else (if (Ld_size (No_reached s0)) ≤ x2 then (xm_p ((x2, s0))) else (xm_rd (Ld_row (No_reached s0)) x2 (fun v47 => (xm_rd (No_bodies s0) v47 (fun v48 => (xm_b (L_No_markFrom_54 y1 x2 v48 n n (0 : Int32) s0) (fun o62 => (L_No_markFrom_19 y1 n i (x2 + 1) (o62.2)))))))))) := rfl
noncomputable def m_No_markFrom (n : Nat) (s0 : S_No) (p0 : Int32) : MO (S_No) := (xm_b (m_Ld_empty n (No_reached s0)) (fun o34 => (xm_rd (No_lead s0) p0 (fun v39 => (xm_b (m_No_markLeader n ((No_kinds s0), (No_values s0), (No_starts s0), (No_sizes s0), (No_lead s0), (No_bodies s0), (No_needed s0), (No_marked s0), (No_top s0), (No_lowest s0), (No_alive s0), (No_marks s0), (No_fields s0), o34) v39) (fun o40 => (xm_b (L_No_markFrom_19 p0 n n (0 : Int32) o40) (fun o67 => (xm_b (m_No_markAllLed n (o67.2)) (fun o72 => (xm_p o72)))))))))))
set_option maxHeartbeats 4000000 in
set_option maxRecDepth 100000 in
theorem wl_No_markFrom_54 {X : XT} {l : Launch} {D : va_G} {cA : Nat → ClassId} {mc ms : Nat} (F : XF X l D cA b_No_markFrom 5 none R_No 5 149 mc ms) (n : Nat) (ob0 : Nat → Nat) (y1 : Int32) (y2 : Int32) (y3 : Int32)   : ∀ (i : Nat) (x4 : Int32) (s0 : S_No) (ad0 : Nat → Nat) (nc ns : Nat) (out : Int32 × S_No) (k : KC), L_No_markFrom_54 y1 y2 y3 n i x4 s0 = some (out, k) → nc + k.1 ≤ mc → ns + k.2 ≤ ms → (∀ ad : Nat → Nat, XW X 5 ((w_No cA ob0 ad  (out.2))) (nc + k.1) (ns + k.2) 88 [(0, .ref (ob0 0)), (1, .int y1), (2, .int y2), (3, .int y3), (4, .int (out.1))] []) → XW X 5 ((w_No cA ob0 ad0  s0)) nc ns 54 [(0, .ref (ob0 0)), (1, .int y1), (2, .int y2), (3, .int y3), (4, .int x4)] [] := by
  intro i
  induction i with
  | zero =>
    intro x4 s0 ad0 nc ns out k hm
    replace hm : (none : MO (Int32 × S_No)) = some (out, k) := hm
    cases hm
  | succ i ih =>
    intro x4 s0 ad0 nc ns out k hm hc hs KX
    rw [L_No_markFrom_54_s] at hm
    refine x_ws (ws' := [((ob0 0), .inr (3, [.ref (ad0 0), .ref (ad0 1), .ref (ad0 2), .ref (ad0 3), .ref (ad0 4), .ref (ad0 5), .ref (ad0 6), .ref (ad0 7), .int (No_top s0), .int (No_lowest s0), .int (No_alive s0), .int (No_marks s0), .ref (ob0 1), .ref (ob0 2)])), ((ad0 0), .inl (cA 0, (No_kinds s0).1, .inl (No_kinds s0).2)), ((ad0 1), .inl (cA 0, (No_values s0).1, .inl (No_values s0).2)), ((ad0 2), .inl (cA 0, (No_starts s0).1, .inl (No_starts s0).2)), ((ad0 3), .inl (cA 0, (No_sizes s0).1, .inl (No_sizes s0).2)), ((ad0 4), .inl (cA 0, (No_lead s0).1, .inl (No_lead s0).2)), ((ad0 5), .inl (cA 0, (No_bodies s0).1, .inl (No_bodies s0).2)), ((ad0 6), .inl (cA 0, (No_needed s0).1, .inl (No_needed s0).2)), ((ad0 7), .inl (cA 0, (No_marked s0).1, .inl (No_marked s0).2)), ((ob0 1), .inr (0, [.ref (ad0 8), .ref (ad0 9), .int (Fi_used (No_fields s0)), .ref (ad0 10), .ref (ad0 11), .int (Fi_nextUsed (No_fields s0))])), ((ad0 8), .inl (cA 0, (Fi_features (No_fields s0)).1, .inl (Fi_features (No_fields s0)).2)), ((ad0 9), .inl (cA 0, (Fi_parts (No_fields s0)).1, .inl (Fi_parts (No_fields s0)).2)), ((ad0 10), .inl (cA 0, (Fi_nextFeatures (No_fields s0)).1, .inl (Fi_nextFeatures (No_fields s0)).2)), ((ad0 11), .inl (cA 0, (Fi_nextParts (No_fields s0)).1, .inl (Fi_nextParts (No_fields s0)).2)), ((ob0 2), .inr (1, [.ref (ad0 12), .int (Ld_size (No_reached s0))])), ((ad0 12), .inl (cA 0, (Ld_row (No_reached s0)).1, .inl (Ld_row (No_reached s0)).2))]) rfl ?_
    refine x_iload F d_No_markFrom_54 4 rfl ?_
    refine x_aload_n F d_No_markFrom_56 0 rfl rfl ?_
    refine x_get F ck_No hin_No 0 3 rfl (by decide) kw_123 rfl rfl d_No_markFrom_57 ?_
    refine x_iload_n F d_No_markFrom_60 3 rfl rfl ?_
    replace hm := xm_rd_some hm
    obtain ⟨v49, e_v49, b_v49, hm⟩ := hm
    refine x_iald (x := (No_sizes s0)) F 4 rfl e_v49 b_v49 d_No_markFrom_61 ?_
    refine x_icmp_ge F 88 d_No_markFrom_62 (by decide) (fun c50 => ?_) (fun c50 => ?_)
    · replace hm := xm_t hm c50
      replace hm := xm_p_some hm
      obtain ⟨eo, c_o, d_o⟩ := hm
      subst eo
      refine x_sub [0, 1, 2, 3, 4, 5, 6, 7, 8, 9, 10, 11, 12, 13, 14, 15] (by decide) ?_ (x_lv [0, 1, 2, 3, 4] ?_ (x_cs (by omega) (by omega) (KX ad0)))
      · rfl
      · rfl
    · replace hm := xm_f hm c50
      refine x_aload_n F d_No_markFrom_65 0 rfl rfl ?_
      refine x_aload_n F d_No_markFrom_66 0 rfl rfl ?_
      refine x_aload_n F d_No_markFrom_67 0 rfl rfl ?_
      refine x_get F ck_No hin_No 0 2 rfl (by decide) kw_120 rfl rfl d_No_markFrom_68 ?_
      refine x_iload_n F d_No_markFrom_71 3 rfl rfl ?_
      replace hm := xm_rd_some hm
      obtain ⟨v51, e_v51, b_v51, hm⟩ := hm
      refine x_iald (x := (No_starts s0)) F 3 rfl e_v51 b_v51 d_No_markFrom_72 ?_
      refine x_iload F d_No_markFrom_73 4 rfl ?_
      refine x_iadd F d_No_markFrom_75 ?_
      replace hm := xm_b_some hm
      obtain ⟨o52, k53, k54, h55, hm, c_o52, d_o52⟩ := hm
      refine x_callV (n := 1) (C := R_No) (wr := []) F (c_No_partLeader l D cA n ob0 ad0 s0 (v51 + x4) o52 k53 h55) kw_510 kw_572 kw_508 kw_509 kw_40 ⟨rfl, by decide, by decide, by decide +kernel⟩ rfl (by decide) (by decide) (ci := 3) rfl rfl 0 rfl [0, 1, 2, 3, 4, 5, 6, 7, 8, 9, 10, 11, 12, 13, 14, 15] [] rfl rfl (by decide) (by decide) (by decide) rfl (Nat.le_of_ble_eq_true rfl) (by omega) (by omega) d_No_markFrom_76 (fun ad56 => ?_)
      refine x_nf (ws' := [((ob0 0), .inr (3, [.ref (ad0 0), .ref (ad0 1), .ref (ad0 2), .ref (ad0 3), .ref (ad0 4), .ref (ad0 5), .ref (ad0 6), .ref (ad0 7), .int (No_top s0), .int (No_lowest s0), .int (No_alive s0), .int (No_marks s0), .ref (ob0 1), .ref (ob0 2)])), ((ad0 0), .inl (cA 0, (No_kinds s0).1, .inl (No_kinds s0).2)), ((ad0 1), .inl (cA 0, (No_values s0).1, .inl (No_values s0).2)), ((ad0 2), .inl (cA 0, (No_starts s0).1, .inl (No_starts s0).2)), ((ad0 3), .inl (cA 0, (No_sizes s0).1, .inl (No_sizes s0).2)), ((ad0 4), .inl (cA 0, (No_lead s0).1, .inl (No_lead s0).2)), ((ad0 5), .inl (cA 0, (No_bodies s0).1, .inl (No_bodies s0).2)), ((ad0 6), .inl (cA 0, (No_needed s0).1, .inl (No_needed s0).2)), ((ad0 7), .inl (cA 0, (No_marked s0).1, .inl (No_marked s0).2)), ((ob0 1), .inr (0, [.ref (ad0 8), .ref (ad0 9), .int (Fi_used (No_fields s0)), .ref (ad0 10), .ref (ad0 11), .int (Fi_nextUsed (No_fields s0))])), ((ad0 8), .inl (cA 0, (Fi_features (No_fields s0)).1, .inl (Fi_features (No_fields s0)).2)), ((ad0 9), .inl (cA 0, (Fi_parts (No_fields s0)).1, .inl (Fi_parts (No_fields s0)).2)), ((ad0 10), .inl (cA 0, (Fi_nextFeatures (No_fields s0)).1, .inl (Fi_nextFeatures (No_fields s0)).2)), ((ad0 11), .inl (cA 0, (Fi_nextParts (No_fields s0)).1, .inl (Fi_nextParts (No_fields s0)).2)), ((ob0 2), .inr (1, [.ref (ad0 12), .int (Ld_size (No_reached s0))])), ((ad0 12), .inl (cA 0, (Ld_row (No_reached s0)).1, .inl (Ld_row (No_reached s0)).2))]) (st' := [.int o52, .ref (ob0 0)]) rfl rfl ?_
      replace hm := xm_b_some hm
      obtain ⟨o57, k58, k59, h60, hm, c_o57, d_o57⟩ := hm
      refine x_callV (n := 1) (C := R_No) (wr := []) F (c_No_markLeader l D cA n ob0 ad0 s0 o52 o57 k58 h60) kw_570 kw_567 kw_569 kw_12 kw_40 ⟨rfl, by decide, by decide, by decide +kernel⟩ rfl (by decide) (by decide) (ci := 3) rfl rfl 0 rfl [0, 1, 2, 3, 4, 5, 6, 7, 8, 9, 10, 11, 12, 13, 14, 15] [] rfl rfl (by decide) (by decide) (by decide) rfl (Nat.le_of_ble_eq_true rfl) (by omega) (by omega) d_No_markFrom_79 (fun ad61 => ?_)
      refine x_nf (ws' := [((ob0 0), .inr (3, [.ref (ad61 0), .ref (ad61 1), .ref (ad61 2), .ref (ad61 3), .ref (ad61 4), .ref (ad61 5), .ref (ad61 6), .ref (ad61 7), .int (No_top o57), .int (No_lowest o57), .int (No_alive o57), .int (No_marks o57), .ref (ob0 1), .ref (ob0 2)])), ((ad61 0), .inl (cA 0, (No_kinds o57).1, .inl (No_kinds o57).2)), ((ad61 1), .inl (cA 0, (No_values o57).1, .inl (No_values o57).2)), ((ad61 2), .inl (cA 0, (No_starts o57).1, .inl (No_starts o57).2)), ((ad61 3), .inl (cA 0, (No_sizes o57).1, .inl (No_sizes o57).2)), ((ad61 4), .inl (cA 0, (No_lead o57).1, .inl (No_lead o57).2)), ((ad61 5), .inl (cA 0, (No_bodies o57).1, .inl (No_bodies o57).2)), ((ad61 6), .inl (cA 0, (No_needed o57).1, .inl (No_needed o57).2)), ((ad61 7), .inl (cA 0, (No_marked o57).1, .inl (No_marked o57).2)), ((ob0 1), .inr (0, [.ref (ad61 8), .ref (ad61 9), .int (Fi_used (No_fields o57)), .ref (ad61 10), .ref (ad61 11), .int (Fi_nextUsed (No_fields o57))])), ((ad61 8), .inl (cA 0, (Fi_features (No_fields o57)).1, .inl (Fi_features (No_fields o57)).2)), ((ad61 9), .inl (cA 0, (Fi_parts (No_fields o57)).1, .inl (Fi_parts (No_fields o57)).2)), ((ad61 10), .inl (cA 0, (Fi_nextFeatures (No_fields o57)).1, .inl (Fi_nextFeatures (No_fields o57)).2)), ((ad61 11), .inl (cA 0, (Fi_nextParts (No_fields o57)).1, .inl (Fi_nextParts (No_fields o57)).2)), ((ob0 2), .inr (1, [.ref (ad61 12), .int (Ld_size (No_reached o57))])), ((ad61 12), .inl (cA 0, (Ld_row (No_reached o57)).1, .inl (Ld_row (No_reached o57)).2))]) (st' := []) rfl rfl ?_
      refine x_iinc (v := (x4 + 1)) (lv' := [(4, .int (x4 + 1)), (0, .ref (ob0 0)), (1, .int y1), (2, .int y2), (3, .int y3)]) F d_No_markFrom_82 4 rfl rfl (by decide) rfl ?_
      refine x_goto F 54 d_No_markFrom_85 (by decide) ?_
      refine x_sub [0, 1, 2, 3, 4, 5, 6, 7, 8, 9, 10, 11, 12, 13, 14, 15] (by decide) ?_ (x_lv [1, 2, 3, 4, 0] ?_ (ih (x4 + 1) o57 ad61 _ _ out k59 hm (by omega) (by omega) (fun ad => x_cs (by omega) (by omega) (KX ad))))
      · rfl
      · rfl
set_option maxHeartbeats 4000000 in
set_option maxRecDepth 100000 in
theorem wl_No_markFrom_19 {X : XT} {l : Launch} {D : va_G} {cA : Nat → ClassId} {mc ms : Nat} (F : XF X l D cA b_No_markFrom 5 none R_No 5 149 mc ms) (n : Nat) (ob0 : Nat → Nat) (y1 : Int32)   : ∀ (i : Nat) (x2 : Int32) (s0 : S_No) (ad0 : Nat → Nat) (nc ns : Nat) (out : Int32 × S_No) (k : KC), L_No_markFrom_19 y1 n i x2 s0 = some (out, k) → nc + k.1 ≤ mc → ns + k.2 ≤ ms → (∀ ad : Nat → Nat, XW X 5 ((w_No cA ob0 ad  (out.2))) (nc + k.1) (ns + k.2) 94 [(0, .ref (ob0 0)), (1, .int y1), (2, .int (out.1))] []) → XW X 5 ((w_No cA ob0 ad0  s0)) nc ns 19 [(0, .ref (ob0 0)), (1, .int y1), (2, .int x2)] [] := by
  intro i
  induction i with
  | zero =>
    intro x2 s0 ad0 nc ns out k hm
    replace hm : (none : MO (Int32 × S_No)) = some (out, k) := hm
    cases hm
  | succ i ih =>
    intro x2 s0 ad0 nc ns out k hm hc hs KX
    rw [L_No_markFrom_19_s] at hm
    refine x_ws (ws' := [((ob0 0), .inr (3, [.ref (ad0 0), .ref (ad0 1), .ref (ad0 2), .ref (ad0 3), .ref (ad0 4), .ref (ad0 5), .ref (ad0 6), .ref (ad0 7), .int (No_top s0), .int (No_lowest s0), .int (No_alive s0), .int (No_marks s0), .ref (ob0 1), .ref (ob0 2)])), ((ad0 0), .inl (cA 0, (No_kinds s0).1, .inl (No_kinds s0).2)), ((ad0 1), .inl (cA 0, (No_values s0).1, .inl (No_values s0).2)), ((ad0 2), .inl (cA 0, (No_starts s0).1, .inl (No_starts s0).2)), ((ad0 3), .inl (cA 0, (No_sizes s0).1, .inl (No_sizes s0).2)), ((ad0 4), .inl (cA 0, (No_lead s0).1, .inl (No_lead s0).2)), ((ad0 5), .inl (cA 0, (No_bodies s0).1, .inl (No_bodies s0).2)), ((ad0 6), .inl (cA 0, (No_needed s0).1, .inl (No_needed s0).2)), ((ad0 7), .inl (cA 0, (No_marked s0).1, .inl (No_marked s0).2)), ((ob0 1), .inr (0, [.ref (ad0 8), .ref (ad0 9), .int (Fi_used (No_fields s0)), .ref (ad0 10), .ref (ad0 11), .int (Fi_nextUsed (No_fields s0))])), ((ad0 8), .inl (cA 0, (Fi_features (No_fields s0)).1, .inl (Fi_features (No_fields s0)).2)), ((ad0 9), .inl (cA 0, (Fi_parts (No_fields s0)).1, .inl (Fi_parts (No_fields s0)).2)), ((ad0 10), .inl (cA 0, (Fi_nextFeatures (No_fields s0)).1, .inl (Fi_nextFeatures (No_fields s0)).2)), ((ad0 11), .inl (cA 0, (Fi_nextParts (No_fields s0)).1, .inl (Fi_nextParts (No_fields s0)).2)), ((ob0 2), .inr (1, [.ref (ad0 12), .int (Ld_size (No_reached s0))])), ((ad0 12), .inl (cA 0, (Ld_row (No_reached s0)).1, .inl (Ld_row (No_reached s0)).2))]) rfl ?_
    refine x_iload_n F d_No_markFrom_19 2 rfl rfl ?_
    refine x_ldc (v := (32768 : Int32)) F kw_298 d_No_markFrom_20 ?_
    refine x_icmp_ge F 94 d_No_markFrom_22 (by decide) (fun c45 => ?_) (fun c45 => ?_)
    · replace hm := xm_t hm c45
      replace hm := xm_p_some hm
      obtain ⟨eo, c_o, d_o⟩ := hm
      subst eo
      refine x_sub [0, 1, 2, 3, 4, 5, 6, 7, 8, 9, 10, 11, 12, 13, 14, 15] (by decide) ?_ (x_lv [0, 1, 2] ?_ (x_cs (by omega) (by omega) (KX ad0)))
      · rfl
      · rfl
    · replace hm := xm_f hm c45
      refine x_iload_n F d_No_markFrom_25 2 rfl rfl ?_
      refine x_aload_n F d_No_markFrom_26 0 rfl rfl ?_
      refine x_get F ck_No hin_No 0 13 rfl (by decide) kw_150 rfl rfl d_No_markFrom_27 ?_
      refine x_getN F ck_Ld hin_Ld 14 1 rfl (by decide) kn_108 rfl rfl d_No_markFrom_30 ?_
      refine x_icmp_ge F 94 d_No_markFrom_33 (by decide) (fun c46 => ?_) (fun c46 => ?_)
      · replace hm := xm_t hm c46
        replace hm := xm_p_some hm
        obtain ⟨eo, c_o, d_o⟩ := hm
        subst eo
        refine x_sub [0, 1, 2, 3, 4, 5, 6, 7, 8, 9, 10, 11, 12, 13, 14, 15] (by decide) ?_ (x_lv [0, 1, 2] ?_ (x_cs (by omega) (by omega) (KX ad0)))
        · rfl
        · rfl
      · replace hm := xm_f hm c46
        refine x_aload_n F d_No_markFrom_36 0 rfl rfl ?_
        refine x_get F ck_No hin_No 0 5 rfl (by decide) kw_131 rfl rfl d_No_markFrom_37 ?_
        refine x_aload_n F d_No_markFrom_40 0 rfl rfl ?_
        refine x_get F ck_No hin_No 0 13 rfl (by decide) kw_150 rfl rfl d_No_markFrom_41 ?_
        refine x_getN F ck_Ld hin_Ld 14 0 rfl (by decide) kn_105 rfl rfl d_No_markFrom_44 ?_
        refine x_iload_n F d_No_markFrom_47 2 rfl rfl ?_
        replace hm := xm_rd_some hm
        obtain ⟨v47, e_v47, b_v47, hm⟩ := hm
        refine x_iald (x := (Ld_row (No_reached s0))) F 15 rfl e_v47 b_v47 d_No_markFrom_48 ?_
        replace hm := xm_rd_some hm
        obtain ⟨v48, e_v48, b_v48, hm⟩ := hm
        refine x_iald (x := (No_bodies s0)) F 6 rfl e_v48 b_v48 d_No_markFrom_49 ?_
        refine x_istore_n (lv' := [(3, .int v48), (0, .ref (ob0 0)), (1, .int y1), (2, .int x2)]) F d_No_markFrom_50 rfl (by decide) rfl ?_
        refine x_iconst (v := (0 : Int32)) F d_No_markFrom_51 (by decide) ?_
        refine x_istore (lv' := [(4, .int (0 : Int32)), (3, .int v48), (0, .ref (ob0 0)), (1, .int y1), (2, .int x2)]) F d_No_markFrom_52 (by decide) rfl ?_
        replace hm := xm_b_some hm
        obtain ⟨o62, k63, k64, h65, hm, c_o62, d_o62⟩ := hm
        refine x_sub [0, 1, 2, 3, 4, 5, 6, 7, 8, 9, 10, 11, 12, 13, 14, 15] (by decide) ?_ (x_lv [2, 3, 4, 1, 0] ?_ (wl_No_markFrom_54 F n ob0 y1 x2 v48  n (0 : Int32) s0 ad0 _ _ o62 k63 h65 (by omega) (by omega) (fun ad66 => ?_)))
        · rfl
        · rfl
        refine x_nf2 (ws' := [((ob0 0), .inr (3, [.ref (ad66 0), .ref (ad66 1), .ref (ad66 2), .ref (ad66 3), .ref (ad66 4), .ref (ad66 5), .ref (ad66 6), .ref (ad66 7), .int (No_top (o62.2)), .int (No_lowest (o62.2)), .int (No_alive (o62.2)), .int (No_marks (o62.2)), .ref (ob0 1), .ref (ob0 2)])), ((ad66 0), .inl (cA 0, (No_kinds (o62.2)).1, .inl (No_kinds (o62.2)).2)), ((ad66 1), .inl (cA 0, (No_values (o62.2)).1, .inl (No_values (o62.2)).2)), ((ad66 2), .inl (cA 0, (No_starts (o62.2)).1, .inl (No_starts (o62.2)).2)), ((ad66 3), .inl (cA 0, (No_sizes (o62.2)).1, .inl (No_sizes (o62.2)).2)), ((ad66 4), .inl (cA 0, (No_lead (o62.2)).1, .inl (No_lead (o62.2)).2)), ((ad66 5), .inl (cA 0, (No_bodies (o62.2)).1, .inl (No_bodies (o62.2)).2)), ((ad66 6), .inl (cA 0, (No_needed (o62.2)).1, .inl (No_needed (o62.2)).2)), ((ad66 7), .inl (cA 0, (No_marked (o62.2)).1, .inl (No_marked (o62.2)).2)), ((ob0 1), .inr (0, [.ref (ad66 8), .ref (ad66 9), .int (Fi_used (No_fields (o62.2))), .ref (ad66 10), .ref (ad66 11), .int (Fi_nextUsed (No_fields (o62.2)))])), ((ad66 8), .inl (cA 0, (Fi_features (No_fields (o62.2))).1, .inl (Fi_features (No_fields (o62.2))).2)), ((ad66 9), .inl (cA 0, (Fi_parts (No_fields (o62.2))).1, .inl (Fi_parts (No_fields (o62.2))).2)), ((ad66 10), .inl (cA 0, (Fi_nextFeatures (No_fields (o62.2))).1, .inl (Fi_nextFeatures (No_fields (o62.2))).2)), ((ad66 11), .inl (cA 0, (Fi_nextParts (No_fields (o62.2))).1, .inl (Fi_nextParts (No_fields (o62.2))).2)), ((ob0 2), .inr (1, [.ref (ad66 12), .int (Ld_size (No_reached (o62.2)))])), ((ad66 12), .inl (cA 0, (Ld_row (No_reached (o62.2))).1, .inl (Ld_row (No_reached (o62.2))).2))]) (lv' := [(0, .ref (ob0 0)), (1, .int y1), (2, .int x2), (3, .int v48), (4, .int (o62.1))]) rfl rfl ?_
        refine x_iinc (v := (x2 + 1)) (lv' := [(2, .int (x2 + 1)), (0, .ref (ob0 0)), (1, .int y1), (3, .int v48), (4, .int (o62.1))]) F d_No_markFrom_88 2 rfl rfl (by decide) rfl ?_
        refine x_goto F 19 d_No_markFrom_91 (by decide) ?_
        refine x_sub [0, 1, 2, 3, 4, 5, 6, 7, 8, 9, 10, 11, 12, 13, 14, 15] (by decide) ?_ (x_lv [1, 2, 0] ?_ (ih (x2 + 1) (o62.2) ad66 _ _ out k64 hm (by omega) (by omega) (fun ad => x_cs (by omega) (by omega) (KX ad))))
        · rfl
        · rfl
set_option maxHeartbeats 4000000 in
set_option maxRecDepth 100000 in
theorem c_No_markFrom (l : Launch) (D : va_G) (cA : Nat → ClassId) (n : Nat) (ob0 ad0 : Nat → Nat) (s0 : S_No) (p0 : Int32) (out : S_No) (k : KC) (hm : m_No_markFrom n s0 p0 = some (out, k)) : XM l D cA y_No_markFrom b_No_markFrom 5 none 5 149 [.ref (ob0 0), .int p0] ((w_No cA ob0 ad0  s0)) k (fun _ => none) (fun ad => (w_No cA ob0 ad  out)) := by
  refine x_met (cc := b_No_markFrom) (nL := 5) (ret := none) R_No (by decide) (Nat.le_of_ble_eq_true rfl) rfl (fun X F I E => ?_)
  unfold m_No_markFrom at hm
  refine x_nf2 (ws' := [((ob0 0), .inr (3, [.ref (ad0 0), .ref (ad0 1), .ref (ad0 2), .ref (ad0 3), .ref (ad0 4), .ref (ad0 5), .ref (ad0 6), .ref (ad0 7), .int (No_top s0), .int (No_lowest s0), .int (No_alive s0), .int (No_marks s0), .ref (ob0 1), .ref (ob0 2)])), ((ad0 0), .inl (cA 0, (No_kinds s0).1, .inl (No_kinds s0).2)), ((ad0 1), .inl (cA 0, (No_values s0).1, .inl (No_values s0).2)), ((ad0 2), .inl (cA 0, (No_starts s0).1, .inl (No_starts s0).2)), ((ad0 3), .inl (cA 0, (No_sizes s0).1, .inl (No_sizes s0).2)), ((ad0 4), .inl (cA 0, (No_lead s0).1, .inl (No_lead s0).2)), ((ad0 5), .inl (cA 0, (No_bodies s0).1, .inl (No_bodies s0).2)), ((ad0 6), .inl (cA 0, (No_needed s0).1, .inl (No_needed s0).2)), ((ad0 7), .inl (cA 0, (No_marked s0).1, .inl (No_marked s0).2)), ((ob0 1), .inr (0, [.ref (ad0 8), .ref (ad0 9), .int (Fi_used (No_fields s0)), .ref (ad0 10), .ref (ad0 11), .int (Fi_nextUsed (No_fields s0))])), ((ad0 8), .inl (cA 0, (Fi_features (No_fields s0)).1, .inl (Fi_features (No_fields s0)).2)), ((ad0 9), .inl (cA 0, (Fi_parts (No_fields s0)).1, .inl (Fi_parts (No_fields s0)).2)), ((ad0 10), .inl (cA 0, (Fi_nextFeatures (No_fields s0)).1, .inl (Fi_nextFeatures (No_fields s0)).2)), ((ad0 11), .inl (cA 0, (Fi_nextParts (No_fields s0)).1, .inl (Fi_nextParts (No_fields s0)).2)), ((ob0 2), .inr (1, [.ref (ad0 12), .int (Ld_size (No_reached s0))])), ((ad0 12), .inl (cA 0, (Ld_row (No_reached s0)).1, .inl (Ld_row (No_reached s0)).2))]) (lv' := [(0, .ref (ob0 0)), (1, .int p0)]) rfl rfl ?_
  refine x_aload_n F d_No_markFrom_0 0 rfl rfl ?_
  refine x_get F ck_No hin_No 0 13 rfl (by decide) kw_150 rfl rfl d_No_markFrom_1 ?_
  replace hm := xm_b_some hm
  obtain ⟨o34, k35, k36, h37, hm, c_o34, d_o34⟩ := hm
  refine x_callV (n := 0) (C := R_Ld) (wr := [((ob0 0), .inr (3, [.ref (ad0 0), .ref (ad0 1), .ref (ad0 2), .ref (ad0 3), .ref (ad0 4), .ref (ad0 5), .ref (ad0 6), .ref (ad0 7), .int (No_top s0), .int (No_lowest s0), .int (No_alive s0), .int (No_marks s0), .ref (ob0 1), .ref (ob0 2)])), ((ad0 0), .inl (cA 0, (No_kinds s0).1, .inl (No_kinds s0).2)), ((ad0 1), .inl (cA 0, (No_values s0).1, .inl (No_values s0).2)), ((ad0 2), .inl (cA 0, (No_starts s0).1, .inl (No_starts s0).2)), ((ad0 3), .inl (cA 0, (No_sizes s0).1, .inl (No_sizes s0).2)), ((ad0 4), .inl (cA 0, (No_lead s0).1, .inl (No_lead s0).2)), ((ad0 5), .inl (cA 0, (No_bodies s0).1, .inl (No_bodies s0).2)), ((ad0 6), .inl (cA 0, (No_needed s0).1, .inl (No_needed s0).2)), ((ad0 7), .inl (cA 0, (No_marked s0).1, .inl (No_marked s0).2)), ((ob0 1), .inr (0, [.ref (ad0 8), .ref (ad0 9), .int (Fi_used (No_fields s0)), .ref (ad0 10), .ref (ad0 11), .int (Fi_nextUsed (No_fields s0))])), ((ad0 8), .inl (cA 0, (Fi_features (No_fields s0)).1, .inl (Fi_features (No_fields s0)).2)), ((ad0 9), .inl (cA 0, (Fi_parts (No_fields s0)).1, .inl (Fi_parts (No_fields s0)).2)), ((ad0 10), .inl (cA 0, (Fi_nextFeatures (No_fields s0)).1, .inl (Fi_nextFeatures (No_fields s0)).2)), ((ad0 11), .inl (cA 0, (Fi_nextParts (No_fields s0)).1, .inl (Fi_nextParts (No_fields s0)).2))]) F (c_Ld_empty l D cA n (fun i => ob0 (i + 2)) (fun i => ad0 (i + 12)) (No_reached s0)  o34 k35 h37) kw_416 kw_566 kw_414 kw_415 kw_42 ⟨rfl, by decide, by decide, by decide +kernel⟩ rfl (by decide) (by decide) (ci := 1) rfl rfl 0 rfl [14, 15] [0, 1, 2, 3, 4, 5, 6, 7, 8, 9, 10, 11, 12, 13] rfl rfl (by decide) (by decide) (by decide) rfl (Nat.le_of_ble_eq_true rfl) (by omega) (by omega) d_No_markFrom_4 (fun ad38 => ?_)
  refine x_nf (ws' := [((ob0 0), .inr (3, [.ref (ad0 0), .ref (ad0 1), .ref (ad0 2), .ref (ad0 3), .ref (ad0 4), .ref (ad0 5), .ref (ad0 6), .ref (ad0 7), .int (No_top s0), .int (No_lowest s0), .int (No_alive s0), .int (No_marks s0), .ref (ob0 1), .ref (ob0 2)])), ((ad0 0), .inl (cA 0, (No_kinds s0).1, .inl (No_kinds s0).2)), ((ad0 1), .inl (cA 0, (No_values s0).1, .inl (No_values s0).2)), ((ad0 2), .inl (cA 0, (No_starts s0).1, .inl (No_starts s0).2)), ((ad0 3), .inl (cA 0, (No_sizes s0).1, .inl (No_sizes s0).2)), ((ad0 4), .inl (cA 0, (No_lead s0).1, .inl (No_lead s0).2)), ((ad0 5), .inl (cA 0, (No_bodies s0).1, .inl (No_bodies s0).2)), ((ad0 6), .inl (cA 0, (No_needed s0).1, .inl (No_needed s0).2)), ((ad0 7), .inl (cA 0, (No_marked s0).1, .inl (No_marked s0).2)), ((ob0 1), .inr (0, [.ref (ad0 8), .ref (ad0 9), .int (Fi_used (No_fields s0)), .ref (ad0 10), .ref (ad0 11), .int (Fi_nextUsed (No_fields s0))])), ((ad0 8), .inl (cA 0, (Fi_features (No_fields s0)).1, .inl (Fi_features (No_fields s0)).2)), ((ad0 9), .inl (cA 0, (Fi_parts (No_fields s0)).1, .inl (Fi_parts (No_fields s0)).2)), ((ad0 10), .inl (cA 0, (Fi_nextFeatures (No_fields s0)).1, .inl (Fi_nextFeatures (No_fields s0)).2)), ((ad0 11), .inl (cA 0, (Fi_nextParts (No_fields s0)).1, .inl (Fi_nextParts (No_fields s0)).2)), ((ob0 2), .inr (1, [.ref (ad38 0), .int (Ld_size o34)])), ((ad38 0), .inl (cA 0, (Ld_row o34).1, .inl (Ld_row o34).2))]) (st' := []) rfl rfl ?_
  refine x_aload_n F d_No_markFrom_7 0 rfl rfl ?_
  refine x_aload_n F d_No_markFrom_8 0 rfl rfl ?_
  refine x_get F ck_No hin_No 0 4 rfl (by decide) kw_127 rfl rfl d_No_markFrom_9 ?_
  refine x_iload_n F d_No_markFrom_12 1 rfl rfl ?_
  replace hm := xm_rd_some hm
  obtain ⟨v39, e_v39, b_v39, hm⟩ := hm
  refine x_iald (x := (No_lead s0)) F 5 rfl e_v39 b_v39 d_No_markFrom_13 ?_
  replace hm := xm_b_some hm
  obtain ⟨o40, k41, k42, h43, hm, c_o40, d_o40⟩ := hm
  refine x_callV (n := 1) (C := R_No) (wr := []) F (c_No_markLeader l D cA n ob0 (xa [(ad0 0), (ad0 1), (ad0 2), (ad0 3), (ad0 4), (ad0 5), (ad0 6), (ad0 7), (ad0 8), (ad0 9), (ad0 10), (ad0 11), (ad38 0)]) ((No_kinds s0), (No_values s0), (No_starts s0), (No_sizes s0), (No_lead s0), (No_bodies s0), (No_needed s0), (No_marked s0), (No_top s0), (No_lowest s0), (No_alive s0), (No_marks s0), (No_fields s0), o34) v39 o40 k41 h43) kw_570 kw_567 kw_569 kw_12 kw_40 ⟨rfl, by decide, by decide, by decide +kernel⟩ rfl (by decide) (by decide) (ci := 3) rfl rfl 0 rfl [0, 1, 2, 3, 4, 5, 6, 7, 8, 9, 10, 11, 12, 13, 14, 15] [] rfl rfl (by decide) (by decide) (by decide) rfl (Nat.le_of_ble_eq_true rfl) (by omega) (by omega) d_No_markFrom_14 (fun ad44 => ?_)
  refine x_nf (ws' := [((ob0 0), .inr (3, [.ref (ad44 0), .ref (ad44 1), .ref (ad44 2), .ref (ad44 3), .ref (ad44 4), .ref (ad44 5), .ref (ad44 6), .ref (ad44 7), .int (No_top o40), .int (No_lowest o40), .int (No_alive o40), .int (No_marks o40), .ref (ob0 1), .ref (ob0 2)])), ((ad44 0), .inl (cA 0, (No_kinds o40).1, .inl (No_kinds o40).2)), ((ad44 1), .inl (cA 0, (No_values o40).1, .inl (No_values o40).2)), ((ad44 2), .inl (cA 0, (No_starts o40).1, .inl (No_starts o40).2)), ((ad44 3), .inl (cA 0, (No_sizes o40).1, .inl (No_sizes o40).2)), ((ad44 4), .inl (cA 0, (No_lead o40).1, .inl (No_lead o40).2)), ((ad44 5), .inl (cA 0, (No_bodies o40).1, .inl (No_bodies o40).2)), ((ad44 6), .inl (cA 0, (No_needed o40).1, .inl (No_needed o40).2)), ((ad44 7), .inl (cA 0, (No_marked o40).1, .inl (No_marked o40).2)), ((ob0 1), .inr (0, [.ref (ad44 8), .ref (ad44 9), .int (Fi_used (No_fields o40)), .ref (ad44 10), .ref (ad44 11), .int (Fi_nextUsed (No_fields o40))])), ((ad44 8), .inl (cA 0, (Fi_features (No_fields o40)).1, .inl (Fi_features (No_fields o40)).2)), ((ad44 9), .inl (cA 0, (Fi_parts (No_fields o40)).1, .inl (Fi_parts (No_fields o40)).2)), ((ad44 10), .inl (cA 0, (Fi_nextFeatures (No_fields o40)).1, .inl (Fi_nextFeatures (No_fields o40)).2)), ((ad44 11), .inl (cA 0, (Fi_nextParts (No_fields o40)).1, .inl (Fi_nextParts (No_fields o40)).2)), ((ob0 2), .inr (1, [.ref (ad44 12), .int (Ld_size (No_reached o40))])), ((ad44 12), .inl (cA 0, (Ld_row (No_reached o40)).1, .inl (Ld_row (No_reached o40)).2))]) (st' := []) rfl rfl ?_
  refine x_iconst (v := (0 : Int32)) F d_No_markFrom_17 (by decide) ?_
  refine x_istore_n (lv' := [(2, .int (0 : Int32)), (0, .ref (ob0 0)), (1, .int p0)]) F d_No_markFrom_18 rfl (by decide) rfl ?_
  replace hm := xm_b_some hm
  obtain ⟨o67, k68, k69, h70, hm, c_o67, d_o67⟩ := hm
  refine x_sub [0, 1, 2, 3, 4, 5, 6, 7, 8, 9, 10, 11, 12, 13, 14, 15] (by decide) ?_ (x_lv [1, 2, 0] ?_ (wl_No_markFrom_19 F n ob0 p0  n (0 : Int32) o40 ad44 _ _ o67 k68 h70 (by omega) (by omega) (fun ad71 => ?_)))
  · rfl
  · rfl
  refine x_nf2 (ws' := [((ob0 0), .inr (3, [.ref (ad71 0), .ref (ad71 1), .ref (ad71 2), .ref (ad71 3), .ref (ad71 4), .ref (ad71 5), .ref (ad71 6), .ref (ad71 7), .int (No_top (o67.2)), .int (No_lowest (o67.2)), .int (No_alive (o67.2)), .int (No_marks (o67.2)), .ref (ob0 1), .ref (ob0 2)])), ((ad71 0), .inl (cA 0, (No_kinds (o67.2)).1, .inl (No_kinds (o67.2)).2)), ((ad71 1), .inl (cA 0, (No_values (o67.2)).1, .inl (No_values (o67.2)).2)), ((ad71 2), .inl (cA 0, (No_starts (o67.2)).1, .inl (No_starts (o67.2)).2)), ((ad71 3), .inl (cA 0, (No_sizes (o67.2)).1, .inl (No_sizes (o67.2)).2)), ((ad71 4), .inl (cA 0, (No_lead (o67.2)).1, .inl (No_lead (o67.2)).2)), ((ad71 5), .inl (cA 0, (No_bodies (o67.2)).1, .inl (No_bodies (o67.2)).2)), ((ad71 6), .inl (cA 0, (No_needed (o67.2)).1, .inl (No_needed (o67.2)).2)), ((ad71 7), .inl (cA 0, (No_marked (o67.2)).1, .inl (No_marked (o67.2)).2)), ((ob0 1), .inr (0, [.ref (ad71 8), .ref (ad71 9), .int (Fi_used (No_fields (o67.2))), .ref (ad71 10), .ref (ad71 11), .int (Fi_nextUsed (No_fields (o67.2)))])), ((ad71 8), .inl (cA 0, (Fi_features (No_fields (o67.2))).1, .inl (Fi_features (No_fields (o67.2))).2)), ((ad71 9), .inl (cA 0, (Fi_parts (No_fields (o67.2))).1, .inl (Fi_parts (No_fields (o67.2))).2)), ((ad71 10), .inl (cA 0, (Fi_nextFeatures (No_fields (o67.2))).1, .inl (Fi_nextFeatures (No_fields (o67.2))).2)), ((ad71 11), .inl (cA 0, (Fi_nextParts (No_fields (o67.2))).1, .inl (Fi_nextParts (No_fields (o67.2))).2)), ((ob0 2), .inr (1, [.ref (ad71 12), .int (Ld_size (No_reached (o67.2)))])), ((ad71 12), .inl (cA 0, (Ld_row (No_reached (o67.2))).1, .inl (Ld_row (No_reached (o67.2))).2))]) (lv' := [(0, .ref (ob0 0)), (1, .int p0), (2, .int (o67.1))]) rfl rfl ?_
  refine x_aload_n F d_No_markFrom_94 0 rfl rfl ?_
  replace hm := xm_b_some hm
  obtain ⟨o72, k73, k74, h75, hm, c_o72, d_o72⟩ := hm
  refine x_callV (n := 0) (C := R_No) (wr := []) F (c_No_markAllLed l D cA n ob0 ad71 (o67.2)  o72 k73 h75) kw_576 kw_573 kw_575 kw_13 kw_40 ⟨rfl, by decide, by decide, by decide +kernel⟩ rfl (by decide) (by decide) (ci := 3) rfl rfl 0 rfl [0, 1, 2, 3, 4, 5, 6, 7, 8, 9, 10, 11, 12, 13, 14, 15] [] rfl rfl (by decide) (by decide) (by decide) rfl (Nat.le_of_ble_eq_true rfl) (by omega) (by omega) d_No_markFrom_95 (fun ad76 => ?_)
  refine x_nf (ws' := [((ob0 0), .inr (3, [.ref (ad76 0), .ref (ad76 1), .ref (ad76 2), .ref (ad76 3), .ref (ad76 4), .ref (ad76 5), .ref (ad76 6), .ref (ad76 7), .int (No_top o72), .int (No_lowest o72), .int (No_alive o72), .int (No_marks o72), .ref (ob0 1), .ref (ob0 2)])), ((ad76 0), .inl (cA 0, (No_kinds o72).1, .inl (No_kinds o72).2)), ((ad76 1), .inl (cA 0, (No_values o72).1, .inl (No_values o72).2)), ((ad76 2), .inl (cA 0, (No_starts o72).1, .inl (No_starts o72).2)), ((ad76 3), .inl (cA 0, (No_sizes o72).1, .inl (No_sizes o72).2)), ((ad76 4), .inl (cA 0, (No_lead o72).1, .inl (No_lead o72).2)), ((ad76 5), .inl (cA 0, (No_bodies o72).1, .inl (No_bodies o72).2)), ((ad76 6), .inl (cA 0, (No_needed o72).1, .inl (No_needed o72).2)), ((ad76 7), .inl (cA 0, (No_marked o72).1, .inl (No_marked o72).2)), ((ob0 1), .inr (0, [.ref (ad76 8), .ref (ad76 9), .int (Fi_used (No_fields o72)), .ref (ad76 10), .ref (ad76 11), .int (Fi_nextUsed (No_fields o72))])), ((ad76 8), .inl (cA 0, (Fi_features (No_fields o72)).1, .inl (Fi_features (No_fields o72)).2)), ((ad76 9), .inl (cA 0, (Fi_parts (No_fields o72)).1, .inl (Fi_parts (No_fields o72)).2)), ((ad76 10), .inl (cA 0, (Fi_nextFeatures (No_fields o72)).1, .inl (Fi_nextFeatures (No_fields o72)).2)), ((ad76 11), .inl (cA 0, (Fi_nextParts (No_fields o72)).1, .inl (Fi_nextParts (No_fields o72)).2)), ((ob0 2), .inr (1, [.ref (ad76 12), .int (Ld_size (No_reached o72))])), ((ad76 12), .inl (cA 0, (Ld_row (No_reached o72)).1, .inl (Ld_row (No_reached o72)).2))]) (st' := []) rfl rfl ?_
  replace hm := xm_p_some hm
  obtain ⟨eo, c_o, d_o⟩ := hm
  subst eo
  refine x_sub [0, 1, 2, 3, 4, 5, 6, 7, 8, 9, 10, 11, 12, 13, 14, 15] (by decide) ?_ (xe_v E ad76 (by omega) (by omega)  d_No_markFrom_98)
  rfl

noncomputable def m_No_staysBehind (n : Nat) (s0 : S_No) (p0 : Int32) : MO (Int32) := (xm_rd (No_marked s0) p0 (fun v5 => (if v5 = (1 : Int32) then (xm_rd (No_lead s0) p0 (fun v7 => (if v7 = p0 then (xm_p (1 : Int32)) else (xm_p (0 : Int32))))) else (xm_p (0 : Int32)))))
set_option maxHeartbeats 4000000 in
set_option maxRecDepth 100000 in
theorem c_No_staysBehind (l : Launch) (D : va_G) (cA : Nat → ClassId) (n : Nat) (ob0 ad0 : Nat → Nat) (s0 : S_No) (p0 : Int32) (out : Int32) (k : KC) (hm : m_No_staysBehind n s0 p0 = some (out, k)) : XM l D cA y_No_staysBehind b_No_staysBehind 2 (some FieldType.boolean) 0 0 [.ref (ob0 0), .int p0] ((w_No cA ob0 ad0  s0)) k (fun _ => some (.int out)) (fun ad => (w_No cA ob0 ad0  s0)) := by
  refine x_met (cc := b_No_staysBehind) (nL := 2) (ret := (some FieldType.boolean)) R_No (by decide) (Nat.le_of_ble_eq_true rfl) rfl (fun X F I E => ?_)
  unfold m_No_staysBehind at hm
  refine x_nf2 (ws' := [((ob0 0), .inr (3, [.ref (ad0 0), .ref (ad0 1), .ref (ad0 2), .ref (ad0 3), .ref (ad0 4), .ref (ad0 5), .ref (ad0 6), .ref (ad0 7), .int (No_top s0), .int (No_lowest s0), .int (No_alive s0), .int (No_marks s0), .ref (ob0 1), .ref (ob0 2)])), ((ad0 0), .inl (cA 0, (No_kinds s0).1, .inl (No_kinds s0).2)), ((ad0 1), .inl (cA 0, (No_values s0).1, .inl (No_values s0).2)), ((ad0 2), .inl (cA 0, (No_starts s0).1, .inl (No_starts s0).2)), ((ad0 3), .inl (cA 0, (No_sizes s0).1, .inl (No_sizes s0).2)), ((ad0 4), .inl (cA 0, (No_lead s0).1, .inl (No_lead s0).2)), ((ad0 5), .inl (cA 0, (No_bodies s0).1, .inl (No_bodies s0).2)), ((ad0 6), .inl (cA 0, (No_needed s0).1, .inl (No_needed s0).2)), ((ad0 7), .inl (cA 0, (No_marked s0).1, .inl (No_marked s0).2)), ((ob0 1), .inr (0, [.ref (ad0 8), .ref (ad0 9), .int (Fi_used (No_fields s0)), .ref (ad0 10), .ref (ad0 11), .int (Fi_nextUsed (No_fields s0))])), ((ad0 8), .inl (cA 0, (Fi_features (No_fields s0)).1, .inl (Fi_features (No_fields s0)).2)), ((ad0 9), .inl (cA 0, (Fi_parts (No_fields s0)).1, .inl (Fi_parts (No_fields s0)).2)), ((ad0 10), .inl (cA 0, (Fi_nextFeatures (No_fields s0)).1, .inl (Fi_nextFeatures (No_fields s0)).2)), ((ad0 11), .inl (cA 0, (Fi_nextParts (No_fields s0)).1, .inl (Fi_nextParts (No_fields s0)).2)), ((ob0 2), .inr (1, [.ref (ad0 12), .int (Ld_size (No_reached s0))])), ((ad0 12), .inl (cA 0, (Ld_row (No_reached s0)).1, .inl (Ld_row (No_reached s0)).2))]) (lv' := [(0, .ref (ob0 0)), (1, .int p0)]) rfl rfl ?_
  refine x_aload_n F d_No_staysBehind_0 0 rfl rfl ?_
  refine x_get F ck_No hin_No 0 7 rfl (by decide) kw_138 rfl rfl d_No_staysBehind_1 ?_
  refine x_iload_n F d_No_staysBehind_4 1 rfl rfl ?_
  replace hm := xm_rd_some hm
  obtain ⟨v5, e_v5, b_v5, hm⟩ := hm
  refine x_iald (x := (No_marked s0)) F 8 rfl e_v5 b_v5 d_No_staysBehind_5 ?_
  refine x_iconst (v := (1 : Int32)) F d_No_staysBehind_6 (by decide) ?_
  refine x_icmp_ne F 24 d_No_staysBehind_7 (by decide) (fun c6 => ?_) (fun c6 => ?_)
  · replace hm := xm_f hm c6
    refine x_iconst (v := (0 : Int32)) F d_No_staysBehind_24 (by decide) ?_
    replace hm := xm_p_some hm
    obtain ⟨eo, c_o, d_o⟩ := hm
    subst eo
    refine x_sub [0, 1, 2, 3, 4, 5, 6, 7, 8, 9, 10, 11, 12, 13, 14, 15] (by decide) ?_ (xe_i E (fun _ => 0) (by omega) (by omega) rfl xz_0 d_No_staysBehind_25)
    rfl
  · replace hm := xm_t hm c6
    refine x_aload_n F d_No_staysBehind_10 0 rfl rfl ?_
    refine x_get F ck_No hin_No 0 4 rfl (by decide) kw_127 rfl rfl d_No_staysBehind_11 ?_
    refine x_iload_n F d_No_staysBehind_14 1 rfl rfl ?_
    replace hm := xm_rd_some hm
    obtain ⟨v7, e_v7, b_v7, hm⟩ := hm
    refine x_iald (x := (No_lead s0)) F 5 rfl e_v7 b_v7 d_No_staysBehind_15 ?_
    refine x_iload_n F d_No_staysBehind_16 1 rfl rfl ?_
    refine x_icmp_ne F 24 d_No_staysBehind_17 (by decide) (fun c8 => ?_) (fun c8 => ?_)
    · replace hm := xm_f hm c8
      refine x_iconst (v := (0 : Int32)) F d_No_staysBehind_24 (by decide) ?_
      replace hm := xm_p_some hm
      obtain ⟨eo, c_o, d_o⟩ := hm
      subst eo
      refine x_sub [0, 1, 2, 3, 4, 5, 6, 7, 8, 9, 10, 11, 12, 13, 14, 15] (by decide) ?_ (xe_i E (fun _ => 0) (by omega) (by omega) rfl xz_0 d_No_staysBehind_25)
      rfl
    · replace hm := xm_t hm c8
      refine x_iconst (v := (1 : Int32)) F d_No_staysBehind_20 (by decide) ?_
      refine x_goto F 25 d_No_staysBehind_21 (by decide) ?_
      replace hm := xm_p_some hm
      obtain ⟨eo, c_o, d_o⟩ := hm
      subst eo
      refine x_sub [0, 1, 2, 3, 4, 5, 6, 7, 8, 9, 10, 11, 12, 13, 14, 15] (by decide) ?_ (xe_i E (fun _ => 0) (by omega) (by omega) rfl xz_1 d_No_staysBehind_25)
      rfl

noncomputable def m_No_takeOnBody (n : Nat) (s0 : S_No) (p0 : Int32) : MO (S_No) := (xm_rd (No_bodies s0) p0 (fun v17 => (xm_rd (No_kinds s0) v17 (fun v18 => (xm_wr (No_kinds s0) p0 v18 (fun a19 => (xm_rd (No_values s0) v17 (fun v20 => (xm_wr (No_values s0) p0 v20 (fun a21 => (xm_rd (No_starts s0) v17 (fun v22 => (xm_rd (No_sizes s0) v17 (fun v23 => (xm_b (m_Fi_moveOver n (No_fields s0) (No_lead s0) v22 v23) (fun o24 => (xm_wr (No_starts s0) p0 (o24.1) (fun a29 => (xm_rd (No_sizes s0) v17 (fun v30 => (xm_wr (No_sizes s0) p0 v30 (fun a31 => (xm_wr (No_bodies s0) p0 p0 (fun a32 => (xm_p (a19, a21, a29, a31, (No_lead s0), a32, (No_needed s0), (No_marked s0), (No_top s0), (No_lowest s0), (No_alive s0), (No_marks s0), (o24.2), (No_reached s0)))))))))))))))))))))))))))
set_option maxHeartbeats 4000000 in
set_option maxRecDepth 100000 in
theorem c_No_takeOnBody (l : Launch) (D : va_G) (cA : Nat → ClassId) (n : Nat) (ob0 ad0 : Nat → Nat) (s0 : S_No) (p0 : Int32) (out : S_No) (k : KC) (hm : m_No_takeOnBody n s0 p0 = some (out, k)) : XM l D cA y_No_takeOnBody b_No_takeOnBody 3 none 1 25 [.ref (ob0 0), .int p0] ((w_No cA ob0 ad0  s0)) k (fun _ => none) (fun ad => (w_No cA ob0 ad  out)) := by
  refine x_met (cc := b_No_takeOnBody) (nL := 3) (ret := none) R_No (by decide) (Nat.le_of_ble_eq_true rfl) rfl (fun X F I E => ?_)
  unfold m_No_takeOnBody at hm
  refine x_nf2 (ws' := [((ob0 0), .inr (3, [.ref (ad0 0), .ref (ad0 1), .ref (ad0 2), .ref (ad0 3), .ref (ad0 4), .ref (ad0 5), .ref (ad0 6), .ref (ad0 7), .int (No_top s0), .int (No_lowest s0), .int (No_alive s0), .int (No_marks s0), .ref (ob0 1), .ref (ob0 2)])), ((ad0 0), .inl (cA 0, (No_kinds s0).1, .inl (No_kinds s0).2)), ((ad0 1), .inl (cA 0, (No_values s0).1, .inl (No_values s0).2)), ((ad0 2), .inl (cA 0, (No_starts s0).1, .inl (No_starts s0).2)), ((ad0 3), .inl (cA 0, (No_sizes s0).1, .inl (No_sizes s0).2)), ((ad0 4), .inl (cA 0, (No_lead s0).1, .inl (No_lead s0).2)), ((ad0 5), .inl (cA 0, (No_bodies s0).1, .inl (No_bodies s0).2)), ((ad0 6), .inl (cA 0, (No_needed s0).1, .inl (No_needed s0).2)), ((ad0 7), .inl (cA 0, (No_marked s0).1, .inl (No_marked s0).2)), ((ob0 1), .inr (0, [.ref (ad0 8), .ref (ad0 9), .int (Fi_used (No_fields s0)), .ref (ad0 10), .ref (ad0 11), .int (Fi_nextUsed (No_fields s0))])), ((ad0 8), .inl (cA 0, (Fi_features (No_fields s0)).1, .inl (Fi_features (No_fields s0)).2)), ((ad0 9), .inl (cA 0, (Fi_parts (No_fields s0)).1, .inl (Fi_parts (No_fields s0)).2)), ((ad0 10), .inl (cA 0, (Fi_nextFeatures (No_fields s0)).1, .inl (Fi_nextFeatures (No_fields s0)).2)), ((ad0 11), .inl (cA 0, (Fi_nextParts (No_fields s0)).1, .inl (Fi_nextParts (No_fields s0)).2)), ((ob0 2), .inr (1, [.ref (ad0 12), .int (Ld_size (No_reached s0))])), ((ad0 12), .inl (cA 0, (Ld_row (No_reached s0)).1, .inl (Ld_row (No_reached s0)).2))]) (lv' := [(0, .ref (ob0 0)), (1, .int p0)]) rfl rfl ?_
  refine x_aload_n F d_No_takeOnBody_0 0 rfl rfl ?_
  refine x_get F ck_No hin_No 0 5 rfl (by decide) kw_131 rfl rfl d_No_takeOnBody_1 ?_
  refine x_iload_n F d_No_takeOnBody_4 1 rfl rfl ?_
  replace hm := xm_rd_some hm
  obtain ⟨v17, e_v17, b_v17, hm⟩ := hm
  refine x_iald (x := (No_bodies s0)) F 6 rfl e_v17 b_v17 d_No_takeOnBody_5 ?_
  refine x_istore_n (lv' := [(2, .int v17), (0, .ref (ob0 0)), (1, .int p0)]) F d_No_takeOnBody_6 rfl (by decide) rfl ?_
  refine x_aload_n F d_No_takeOnBody_7 1 rfl rfl ?_
  refine x_get F ck_No hin_No 0 0 rfl (by decide) kw_114 rfl rfl d_No_takeOnBody_8 ?_
  refine x_iload_n F d_No_takeOnBody_11 2 rfl rfl ?_
  refine x_aload_n F d_No_takeOnBody_12 1 rfl rfl ?_
  refine x_get F ck_No hin_No 0 0 rfl (by decide) kw_114 rfl rfl d_No_takeOnBody_13 ?_
  refine x_iload_n F d_No_takeOnBody_16 0 rfl rfl ?_
  replace hm := xm_rd_some hm
  obtain ⟨v18, e_v18, b_v18, hm⟩ := hm
  refine x_iald (x := (No_kinds s0)) F 1 rfl e_v18 b_v18 d_No_takeOnBody_17 ?_
  replace hm := xm_wr_some hm
  obtain ⟨a19, e_a19, b_a19, hm⟩ := hm
  refine x_iast (x := (No_kinds s0)) (x' := a19) (ws' := [((ob0 0), .inr (3, [.ref (ad0 0), .ref (ad0 1), .ref (ad0 2), .ref (ad0 3), .ref (ad0 4), .ref (ad0 5), .ref (ad0 6), .ref (ad0 7), .int (No_top s0), .int (No_lowest s0), .int (No_alive s0), .int (No_marks s0), .ref (ob0 1), .ref (ob0 2)])), ((ad0 0), .inl (cA 0, a19.1, .inl a19.2)), ((ad0 1), .inl (cA 0, (No_values s0).1, .inl (No_values s0).2)), ((ad0 2), .inl (cA 0, (No_starts s0).1, .inl (No_starts s0).2)), ((ad0 3), .inl (cA 0, (No_sizes s0).1, .inl (No_sizes s0).2)), ((ad0 4), .inl (cA 0, (No_lead s0).1, .inl (No_lead s0).2)), ((ad0 5), .inl (cA 0, (No_bodies s0).1, .inl (No_bodies s0).2)), ((ad0 6), .inl (cA 0, (No_needed s0).1, .inl (No_needed s0).2)), ((ad0 7), .inl (cA 0, (No_marked s0).1, .inl (No_marked s0).2)), ((ob0 1), .inr (0, [.ref (ad0 8), .ref (ad0 9), .int (Fi_used (No_fields s0)), .ref (ad0 10), .ref (ad0 11), .int (Fi_nextUsed (No_fields s0))])), ((ad0 8), .inl (cA 0, (Fi_features (No_fields s0)).1, .inl (Fi_features (No_fields s0)).2)), ((ad0 9), .inl (cA 0, (Fi_parts (No_fields s0)).1, .inl (Fi_parts (No_fields s0)).2)), ((ad0 10), .inl (cA 0, (Fi_nextFeatures (No_fields s0)).1, .inl (Fi_nextFeatures (No_fields s0)).2)), ((ad0 11), .inl (cA 0, (Fi_nextParts (No_fields s0)).1, .inl (Fi_nextParts (No_fields s0)).2)), ((ob0 2), .inr (1, [.ref (ad0 12), .int (Ld_size (No_reached s0))])), ((ad0 12), .inl (cA 0, (Ld_row (No_reached s0)).1, .inl (Ld_row (No_reached s0)).2))]) F 1 rfl e_a19 b_a19 rfl d_No_takeOnBody_18 ?_
  refine x_aload_n F d_No_takeOnBody_19 1 rfl rfl ?_
  refine x_get F ck_No hin_No 0 1 rfl (by decide) kw_118 rfl rfl d_No_takeOnBody_20 ?_
  refine x_iload_n F d_No_takeOnBody_23 2 rfl rfl ?_
  refine x_aload_n F d_No_takeOnBody_24 1 rfl rfl ?_
  refine x_get F ck_No hin_No 0 1 rfl (by decide) kw_118 rfl rfl d_No_takeOnBody_25 ?_
  refine x_iload_n F d_No_takeOnBody_28 0 rfl rfl ?_
  replace hm := xm_rd_some hm
  obtain ⟨v20, e_v20, b_v20, hm⟩ := hm
  refine x_iald (x := (No_values s0)) F 2 rfl e_v20 b_v20 d_No_takeOnBody_29 ?_
  replace hm := xm_wr_some hm
  obtain ⟨a21, e_a21, b_a21, hm⟩ := hm
  refine x_iast (x := (No_values s0)) (x' := a21) (ws' := [((ob0 0), .inr (3, [.ref (ad0 0), .ref (ad0 1), .ref (ad0 2), .ref (ad0 3), .ref (ad0 4), .ref (ad0 5), .ref (ad0 6), .ref (ad0 7), .int (No_top s0), .int (No_lowest s0), .int (No_alive s0), .int (No_marks s0), .ref (ob0 1), .ref (ob0 2)])), ((ad0 0), .inl (cA 0, a19.1, .inl a19.2)), ((ad0 1), .inl (cA 0, a21.1, .inl a21.2)), ((ad0 2), .inl (cA 0, (No_starts s0).1, .inl (No_starts s0).2)), ((ad0 3), .inl (cA 0, (No_sizes s0).1, .inl (No_sizes s0).2)), ((ad0 4), .inl (cA 0, (No_lead s0).1, .inl (No_lead s0).2)), ((ad0 5), .inl (cA 0, (No_bodies s0).1, .inl (No_bodies s0).2)), ((ad0 6), .inl (cA 0, (No_needed s0).1, .inl (No_needed s0).2)), ((ad0 7), .inl (cA 0, (No_marked s0).1, .inl (No_marked s0).2)), ((ob0 1), .inr (0, [.ref (ad0 8), .ref (ad0 9), .int (Fi_used (No_fields s0)), .ref (ad0 10), .ref (ad0 11), .int (Fi_nextUsed (No_fields s0))])), ((ad0 8), .inl (cA 0, (Fi_features (No_fields s0)).1, .inl (Fi_features (No_fields s0)).2)), ((ad0 9), .inl (cA 0, (Fi_parts (No_fields s0)).1, .inl (Fi_parts (No_fields s0)).2)), ((ad0 10), .inl (cA 0, (Fi_nextFeatures (No_fields s0)).1, .inl (Fi_nextFeatures (No_fields s0)).2)), ((ad0 11), .inl (cA 0, (Fi_nextParts (No_fields s0)).1, .inl (Fi_nextParts (No_fields s0)).2)), ((ob0 2), .inr (1, [.ref (ad0 12), .int (Ld_size (No_reached s0))])), ((ad0 12), .inl (cA 0, (Ld_row (No_reached s0)).1, .inl (Ld_row (No_reached s0)).2))]) F 2 rfl e_a21 b_a21 rfl d_No_takeOnBody_30 ?_
  refine x_aload_n F d_No_takeOnBody_31 1 rfl rfl ?_
  refine x_get F ck_No hin_No 0 2 rfl (by decide) kw_120 rfl rfl d_No_takeOnBody_32 ?_
  refine x_iload_n F d_No_takeOnBody_35 2 rfl rfl ?_
  refine x_aload_n F d_No_takeOnBody_36 1 rfl rfl ?_
  refine x_get F ck_No hin_No 0 12 rfl (by decide) kw_147 rfl rfl d_No_takeOnBody_37 ?_
  refine x_aload_n F d_No_takeOnBody_40 1 rfl rfl ?_
  refine x_get F ck_No hin_No 0 2 rfl (by decide) kw_120 rfl rfl d_No_takeOnBody_41 ?_
  refine x_iload_n F d_No_takeOnBody_44 0 rfl rfl ?_
  replace hm := xm_rd_some hm
  obtain ⟨v22, e_v22, b_v22, hm⟩ := hm
  refine x_iald (x := (No_starts s0)) F 3 rfl e_v22 b_v22 d_No_takeOnBody_45 ?_
  refine x_aload_n F d_No_takeOnBody_46 1 rfl rfl ?_
  refine x_get F ck_No hin_No 0 3 rfl (by decide) kw_123 rfl rfl d_No_takeOnBody_47 ?_
  refine x_iload_n F d_No_takeOnBody_50 0 rfl rfl ?_
  replace hm := xm_rd_some hm
  obtain ⟨v23, e_v23, b_v23, hm⟩ := hm
  refine x_iald (x := (No_sizes s0)) F 4 rfl e_v23 b_v23 d_No_takeOnBody_51 ?_
  refine x_aload_n F d_No_takeOnBody_52 1 rfl rfl ?_
  refine x_get F ck_No hin_No 0 4 rfl (by decide) kw_127 rfl rfl d_No_takeOnBody_53 ?_
  replace hm := xm_b_some hm
  obtain ⟨o24, k25, k26, h27, hm, c_o24, d_o24⟩ := hm
  refine x_callV (n := 3) (C := R_Fi) (wr := [((ob0 0), .inr (3, [.ref (ad0 0), .ref (ad0 1), .ref (ad0 2), .ref (ad0 3), .ref (ad0 4), .ref (ad0 5), .ref (ad0 6), .ref (ad0 7), .int (No_top s0), .int (No_lowest s0), .int (No_alive s0), .int (No_marks s0), .ref (ob0 1), .ref (ob0 2)])), ((ad0 0), .inl (cA 0, a19.1, .inl a19.2)), ((ad0 1), .inl (cA 0, a21.1, .inl a21.2)), ((ad0 2), .inl (cA 0, (No_starts s0).1, .inl (No_starts s0).2)), ((ad0 3), .inl (cA 0, (No_sizes s0).1, .inl (No_sizes s0).2)), ((ad0 5), .inl (cA 0, (No_bodies s0).1, .inl (No_bodies s0).2)), ((ad0 6), .inl (cA 0, (No_needed s0).1, .inl (No_needed s0).2)), ((ad0 7), .inl (cA 0, (No_marked s0).1, .inl (No_marked s0).2)), ((ob0 2), .inr (1, [.ref (ad0 12), .int (Ld_size (No_reached s0))])), ((ad0 12), .inl (cA 0, (Ld_row (No_reached s0)).1, .inl (Ld_row (No_reached s0)).2))]) F (c_Fi_moveOver l D cA n (fun i => ob0 (i + 1)) (fun i => ad0 (i + 8)) (No_fields s0) (ad0 4) (No_lead s0) v22 v23 o24 k25 h27) kw_601 kw_598 kw_599 kw_600 kw_41 ⟨rfl, by decide, by decide, by decide +kernel⟩ rfl (by decide) (by decide) (ci := 0) rfl rfl 0 rfl [9, 10, 11, 12, 13, 5] [0, 1, 2, 3, 4, 6, 7, 8, 14, 15] rfl rfl (by decide) (by decide) (by decide) rfl (Nat.le_of_ble_eq_true rfl) (by omega) (by omega) d_No_takeOnBody_56 (fun ad28 => ?_)
  refine x_nf (ws' := [((ob0 0), .inr (3, [.ref (ad0 0), .ref (ad0 1), .ref (ad0 2), .ref (ad0 3), .ref (ad0 4), .ref (ad0 5), .ref (ad0 6), .ref (ad0 7), .int (No_top s0), .int (No_lowest s0), .int (No_alive s0), .int (No_marks s0), .ref (ob0 1), .ref (ob0 2)])), ((ad0 0), .inl (cA 0, a19.1, .inl a19.2)), ((ad0 1), .inl (cA 0, a21.1, .inl a21.2)), ((ad0 2), .inl (cA 0, (No_starts s0).1, .inl (No_starts s0).2)), ((ad0 3), .inl (cA 0, (No_sizes s0).1, .inl (No_sizes s0).2)), ((ad0 5), .inl (cA 0, (No_bodies s0).1, .inl (No_bodies s0).2)), ((ad0 6), .inl (cA 0, (No_needed s0).1, .inl (No_needed s0).2)), ((ad0 7), .inl (cA 0, (No_marked s0).1, .inl (No_marked s0).2)), ((ob0 2), .inr (1, [.ref (ad0 12), .int (Ld_size (No_reached s0))])), ((ad0 12), .inl (cA 0, (Ld_row (No_reached s0)).1, .inl (Ld_row (No_reached s0)).2)), ((ob0 1), .inr (0, [.ref (ad28 0), .ref (ad28 1), .int (Fi_used (o24.2)), .ref (ad28 2), .ref (ad28 3), .int (Fi_nextUsed (o24.2))])), ((ad28 0), .inl (cA 0, (Fi_features (o24.2)).1, .inl (Fi_features (o24.2)).2)), ((ad28 1), .inl (cA 0, (Fi_parts (o24.2)).1, .inl (Fi_parts (o24.2)).2)), ((ad28 2), .inl (cA 0, (Fi_nextFeatures (o24.2)).1, .inl (Fi_nextFeatures (o24.2)).2)), ((ad28 3), .inl (cA 0, (Fi_nextParts (o24.2)).1, .inl (Fi_nextParts (o24.2)).2)), ((ad0 4), .inl (cA 0, (No_lead s0).1, .inl (No_lead s0).2))]) (st' := [.int (o24.1), .int p0, .ref (ad0 2)]) rfl rfl ?_
  replace hm := xm_wr_some hm
  obtain ⟨a29, e_a29, b_a29, hm⟩ := hm
  refine x_iast (x := (No_starts s0)) (x' := a29) (ws' := [((ob0 0), .inr (3, [.ref (ad0 0), .ref (ad0 1), .ref (ad0 2), .ref (ad0 3), .ref (ad0 4), .ref (ad0 5), .ref (ad0 6), .ref (ad0 7), .int (No_top s0), .int (No_lowest s0), .int (No_alive s0), .int (No_marks s0), .ref (ob0 1), .ref (ob0 2)])), ((ad0 0), .inl (cA 0, a19.1, .inl a19.2)), ((ad0 1), .inl (cA 0, a21.1, .inl a21.2)), ((ad0 2), .inl (cA 0, a29.1, .inl a29.2)), ((ad0 3), .inl (cA 0, (No_sizes s0).1, .inl (No_sizes s0).2)), ((ad0 5), .inl (cA 0, (No_bodies s0).1, .inl (No_bodies s0).2)), ((ad0 6), .inl (cA 0, (No_needed s0).1, .inl (No_needed s0).2)), ((ad0 7), .inl (cA 0, (No_marked s0).1, .inl (No_marked s0).2)), ((ob0 2), .inr (1, [.ref (ad0 12), .int (Ld_size (No_reached s0))])), ((ad0 12), .inl (cA 0, (Ld_row (No_reached s0)).1, .inl (Ld_row (No_reached s0)).2)), ((ob0 1), .inr (0, [.ref (ad28 0), .ref (ad28 1), .int (Fi_used (o24.2)), .ref (ad28 2), .ref (ad28 3), .int (Fi_nextUsed (o24.2))])), ((ad28 0), .inl (cA 0, (Fi_features (o24.2)).1, .inl (Fi_features (o24.2)).2)), ((ad28 1), .inl (cA 0, (Fi_parts (o24.2)).1, .inl (Fi_parts (o24.2)).2)), ((ad28 2), .inl (cA 0, (Fi_nextFeatures (o24.2)).1, .inl (Fi_nextFeatures (o24.2)).2)), ((ad28 3), .inl (cA 0, (Fi_nextParts (o24.2)).1, .inl (Fi_nextParts (o24.2)).2)), ((ad0 4), .inl (cA 0, (No_lead s0).1, .inl (No_lead s0).2))]) F 3 rfl e_a29 b_a29 rfl d_No_takeOnBody_59 ?_
  refine x_aload_n F d_No_takeOnBody_60 1 rfl rfl ?_
  refine x_get F ck_No hin_No 0 3 rfl (by decide) kw_123 rfl rfl d_No_takeOnBody_61 ?_
  refine x_iload_n F d_No_takeOnBody_64 2 rfl rfl ?_
  refine x_aload_n F d_No_takeOnBody_65 1 rfl rfl ?_
  refine x_get F ck_No hin_No 0 3 rfl (by decide) kw_123 rfl rfl d_No_takeOnBody_66 ?_
  refine x_iload_n F d_No_takeOnBody_69 0 rfl rfl ?_
  replace hm := xm_rd_some hm
  obtain ⟨v30, e_v30, b_v30, hm⟩ := hm
  refine x_iald (x := (No_sizes s0)) F 4 rfl e_v30 b_v30 d_No_takeOnBody_70 ?_
  replace hm := xm_wr_some hm
  obtain ⟨a31, e_a31, b_a31, hm⟩ := hm
  refine x_iast (x := (No_sizes s0)) (x' := a31) (ws' := [((ob0 0), .inr (3, [.ref (ad0 0), .ref (ad0 1), .ref (ad0 2), .ref (ad0 3), .ref (ad0 4), .ref (ad0 5), .ref (ad0 6), .ref (ad0 7), .int (No_top s0), .int (No_lowest s0), .int (No_alive s0), .int (No_marks s0), .ref (ob0 1), .ref (ob0 2)])), ((ad0 0), .inl (cA 0, a19.1, .inl a19.2)), ((ad0 1), .inl (cA 0, a21.1, .inl a21.2)), ((ad0 2), .inl (cA 0, a29.1, .inl a29.2)), ((ad0 3), .inl (cA 0, a31.1, .inl a31.2)), ((ad0 5), .inl (cA 0, (No_bodies s0).1, .inl (No_bodies s0).2)), ((ad0 6), .inl (cA 0, (No_needed s0).1, .inl (No_needed s0).2)), ((ad0 7), .inl (cA 0, (No_marked s0).1, .inl (No_marked s0).2)), ((ob0 2), .inr (1, [.ref (ad0 12), .int (Ld_size (No_reached s0))])), ((ad0 12), .inl (cA 0, (Ld_row (No_reached s0)).1, .inl (Ld_row (No_reached s0)).2)), ((ob0 1), .inr (0, [.ref (ad28 0), .ref (ad28 1), .int (Fi_used (o24.2)), .ref (ad28 2), .ref (ad28 3), .int (Fi_nextUsed (o24.2))])), ((ad28 0), .inl (cA 0, (Fi_features (o24.2)).1, .inl (Fi_features (o24.2)).2)), ((ad28 1), .inl (cA 0, (Fi_parts (o24.2)).1, .inl (Fi_parts (o24.2)).2)), ((ad28 2), .inl (cA 0, (Fi_nextFeatures (o24.2)).1, .inl (Fi_nextFeatures (o24.2)).2)), ((ad28 3), .inl (cA 0, (Fi_nextParts (o24.2)).1, .inl (Fi_nextParts (o24.2)).2)), ((ad0 4), .inl (cA 0, (No_lead s0).1, .inl (No_lead s0).2))]) F 4 rfl e_a31 b_a31 rfl d_No_takeOnBody_71 ?_
  refine x_aload_n F d_No_takeOnBody_72 1 rfl rfl ?_
  refine x_get F ck_No hin_No 0 5 rfl (by decide) kw_131 rfl rfl d_No_takeOnBody_73 ?_
  refine x_iload_n F d_No_takeOnBody_76 2 rfl rfl ?_
  refine x_iload_n F d_No_takeOnBody_77 2 rfl rfl ?_
  replace hm := xm_wr_some hm
  obtain ⟨a32, e_a32, b_a32, hm⟩ := hm
  refine x_iast (x := (No_bodies s0)) (x' := a32) (ws' := [((ob0 0), .inr (3, [.ref (ad0 0), .ref (ad0 1), .ref (ad0 2), .ref (ad0 3), .ref (ad0 4), .ref (ad0 5), .ref (ad0 6), .ref (ad0 7), .int (No_top s0), .int (No_lowest s0), .int (No_alive s0), .int (No_marks s0), .ref (ob0 1), .ref (ob0 2)])), ((ad0 0), .inl (cA 0, a19.1, .inl a19.2)), ((ad0 1), .inl (cA 0, a21.1, .inl a21.2)), ((ad0 2), .inl (cA 0, a29.1, .inl a29.2)), ((ad0 3), .inl (cA 0, a31.1, .inl a31.2)), ((ad0 5), .inl (cA 0, a32.1, .inl a32.2)), ((ad0 6), .inl (cA 0, (No_needed s0).1, .inl (No_needed s0).2)), ((ad0 7), .inl (cA 0, (No_marked s0).1, .inl (No_marked s0).2)), ((ob0 2), .inr (1, [.ref (ad0 12), .int (Ld_size (No_reached s0))])), ((ad0 12), .inl (cA 0, (Ld_row (No_reached s0)).1, .inl (Ld_row (No_reached s0)).2)), ((ob0 1), .inr (0, [.ref (ad28 0), .ref (ad28 1), .int (Fi_used (o24.2)), .ref (ad28 2), .ref (ad28 3), .int (Fi_nextUsed (o24.2))])), ((ad28 0), .inl (cA 0, (Fi_features (o24.2)).1, .inl (Fi_features (o24.2)).2)), ((ad28 1), .inl (cA 0, (Fi_parts (o24.2)).1, .inl (Fi_parts (o24.2)).2)), ((ad28 2), .inl (cA 0, (Fi_nextFeatures (o24.2)).1, .inl (Fi_nextFeatures (o24.2)).2)), ((ad28 3), .inl (cA 0, (Fi_nextParts (o24.2)).1, .inl (Fi_nextParts (o24.2)).2)), ((ad0 4), .inl (cA 0, (No_lead s0).1, .inl (No_lead s0).2))]) F 5 rfl e_a32 b_a32 rfl d_No_takeOnBody_78 ?_
  replace hm := xm_p_some hm
  obtain ⟨eo, c_o, d_o⟩ := hm
  subst eo
  refine x_sub [0, 1, 2, 3, 4, 15, 5, 6, 7, 10, 11, 12, 13, 14, 8, 9] (by decide) ?_ (xe_v E (xa [(ad0 0), (ad0 1), (ad0 2), (ad0 3), (ad0 4), (ad0 5), (ad0 6), (ad0 7), (ad28 0), (ad28 1), (ad28 2), (ad28 3), (ad0 12)]) (by omega) (by omega)  d_No_takeOnBody_79)
  rfl

noncomputable def L_No_vacateAllOthers_9  (n i : Nat) : Int32 → Int32 → S_No → MO (Int32 × Int32 × S_No) := Nat.rec (motive := fun _ => Int32 → Int32 → S_No → MO (Int32 × Int32 × S_No)) (fun _ _ _ => none) (fun _ ih x1 x2 s0 => (if (No_top s0) ≤ x2 then (xm_p ((x1, x2, s0))) else (xm_b (m_No_staysBehind n s0 x2) (fun o15 => (if o15 = 0 then (xm_b (m_No_vacate n s0 x2) (fun o21 => (ih x1 (x2 + 1) o21))) else (xm_wr (No_marked s0) x2 (0 : Int32) (fun a26 => (ih (x2 + (1 : Int32)) (x2 + 1) ((No_kinds s0), (No_values s0), (No_starts s0), (No_sizes s0), (No_lead s0), (No_bodies s0), (No_needed s0), a26, (No_top s0), (No_lowest s0), ((No_alive s0) + (1 : Int32)), (No_marks s0), (No_fields s0), (No_reached s0)))))))))) i
theorem L_No_vacateAllOthers_9_s  (n i : Nat) (x1 : Int32) (x2 : Int32) (s0 : S_No) : L_No_vacateAllOthers_9  n (i + 1) x1 x2 s0 = (if (No_top s0) ≤ x2 then (xm_p ((x1, x2, s0))) else (xm_b (m_No_staysBehind n s0 x2) (fun o15 => (if o15 = 0 then (xm_b (m_No_vacate n s0 x2) (fun o21 => (L_No_vacateAllOthers_9  n i x1 (x2 + 1) o21))) else (xm_wr (No_marked s0) x2 (0 : Int32) (fun a26 => (L_No_vacateAllOthers_9  n i (x2 + (1 : Int32)) (x2 + 1) ((No_kinds s0), (No_values s0), (No_starts s0), (No_sizes s0), (No_lead s0), (No_bodies s0), (No_needed s0), a26, (No_top s0), (No_lowest s0), ((No_alive s0) + (1 : Int32)), (No_marks s0), (No_fields s0), (No_reached s0))))))))) := rfl
noncomputable def m_No_vacateAllOthers (n : Nat) (s0 : S_No)  : MO (S_No) := (xm_b (L_No_vacateAllOthers_9  n n (0 : Int32) (0 : Int32) ((No_kinds s0), (No_values s0), (No_starts s0), (No_sizes s0), (No_lead s0), (No_bodies s0), (No_needed s0), (No_marked s0), (No_top s0), (No_lowest s0), (0 : Int32), (No_marks s0), (No_fields s0), (No_reached s0))) (fun o27 => (xm_p ((No_kinds (o27.2.2)), (No_values (o27.2.2)), (No_starts (o27.2.2)), (No_sizes (o27.2.2)), (No_lead (o27.2.2)), (No_bodies (o27.2.2)), (No_needed (o27.2.2)), (No_marked (o27.2.2)), (o27.1), (0 : Int32), (No_alive (o27.2.2)), (0 : Int32), (No_fields (o27.2.2)), (No_reached (o27.2.2))))))
set_option maxHeartbeats 4000000 in
set_option maxRecDepth 100000 in
theorem wl_No_vacateAllOthers_9 {X : XT} {l : Launch} {D : va_G} {cA : Nat → ClassId} {mc ms : Nat} (F : XF X l D cA b_No_vacateAllOthers 3 none R_No 1 21 mc ms) (n : Nat) (ob0 : Nat → Nat)    : ∀ (i : Nat) (x1 : Int32) (x2 : Int32) (s0 : S_No) (ad0 : Nat → Nat) (nc ns : Nat) (out : Int32 × Int32 × S_No) (k : KC), L_No_vacateAllOthers_9  n i x1 x2 s0 = some (out, k) → nc + k.1 ≤ mc → ns + k.2 ≤ ms → (∀ ad : Nat → Nat, XW X 3 ((w_No cA ob0 ad  (out.2.2))) (nc + k.1) (ns + k.2) 60 [(0, .ref (ob0 0)), (1, .int (out.1)), (2, .int (out.2.1))] []) → XW X 3 ((w_No cA ob0 ad0  s0)) nc ns 9 [(0, .ref (ob0 0)), (1, .int x1), (2, .int x2)] [] := by
  intro i
  induction i with
  | zero =>
    intro x1 x2 s0 ad0 nc ns out k hm
    replace hm : (none : MO (Int32 × Int32 × S_No)) = some (out, k) := hm
    cases hm
  | succ i ih =>
    intro x1 x2 s0 ad0 nc ns out k hm hc hs KX
    rw [L_No_vacateAllOthers_9_s] at hm
    refine x_ws (ws' := [((ob0 0), .inr (3, [.ref (ad0 0), .ref (ad0 1), .ref (ad0 2), .ref (ad0 3), .ref (ad0 4), .ref (ad0 5), .ref (ad0 6), .ref (ad0 7), .int (No_top s0), .int (No_lowest s0), .int (No_alive s0), .int (No_marks s0), .ref (ob0 1), .ref (ob0 2)])), ((ad0 0), .inl (cA 0, (No_kinds s0).1, .inl (No_kinds s0).2)), ((ad0 1), .inl (cA 0, (No_values s0).1, .inl (No_values s0).2)), ((ad0 2), .inl (cA 0, (No_starts s0).1, .inl (No_starts s0).2)), ((ad0 3), .inl (cA 0, (No_sizes s0).1, .inl (No_sizes s0).2)), ((ad0 4), .inl (cA 0, (No_lead s0).1, .inl (No_lead s0).2)), ((ad0 5), .inl (cA 0, (No_bodies s0).1, .inl (No_bodies s0).2)), ((ad0 6), .inl (cA 0, (No_needed s0).1, .inl (No_needed s0).2)), ((ad0 7), .inl (cA 0, (No_marked s0).1, .inl (No_marked s0).2)), ((ob0 1), .inr (0, [.ref (ad0 8), .ref (ad0 9), .int (Fi_used (No_fields s0)), .ref (ad0 10), .ref (ad0 11), .int (Fi_nextUsed (No_fields s0))])), ((ad0 8), .inl (cA 0, (Fi_features (No_fields s0)).1, .inl (Fi_features (No_fields s0)).2)), ((ad0 9), .inl (cA 0, (Fi_parts (No_fields s0)).1, .inl (Fi_parts (No_fields s0)).2)), ((ad0 10), .inl (cA 0, (Fi_nextFeatures (No_fields s0)).1, .inl (Fi_nextFeatures (No_fields s0)).2)), ((ad0 11), .inl (cA 0, (Fi_nextParts (No_fields s0)).1, .inl (Fi_nextParts (No_fields s0)).2)), ((ob0 2), .inr (1, [.ref (ad0 12), .int (Ld_size (No_reached s0))])), ((ad0 12), .inl (cA 0, (Ld_row (No_reached s0)).1, .inl (Ld_row (No_reached s0)).2))]) rfl ?_
    refine x_iload_n F d_No_vacateAllOthers_9 2 rfl rfl ?_
    refine x_aload_n F d_No_vacateAllOthers_10 0 rfl rfl ?_
    refine x_get F ck_No hin_No 0 8 rfl (by decide) kw_139 rfl rfl d_No_vacateAllOthers_11 ?_
    refine x_icmp_ge F 60 d_No_vacateAllOthers_14 (by decide) (fun c14 => ?_) (fun c14 => ?_)
    · replace hm := xm_t hm c14
      replace hm := xm_p_some hm
      obtain ⟨eo, c_o, d_o⟩ := hm
      subst eo
      refine x_sub [0, 1, 2, 3, 4, 5, 6, 7, 8, 9, 10, 11, 12, 13, 14, 15] (by decide) ?_ (x_lv [0, 1, 2] ?_ (x_cs (by omega) (by omega) (KX ad0)))
      · rfl
      · rfl
    · replace hm := xm_f hm c14
      refine x_aload_n F d_No_vacateAllOthers_17 0 rfl rfl ?_
      refine x_iload_n F d_No_vacateAllOthers_18 2 rfl rfl ?_
      replace hm := xm_b_some hm
      obtain ⟨o15, k16, k17, h18, hm, c_o15, d_o15⟩ := hm
      refine x_callV (n := 1) (C := R_No) (wr := []) F (c_No_staysBehind l D cA n ob0 ad0 s0 x2 o15 k16 h18) kw_593 kw_590 kw_592 kw_14 kw_40 ⟨rfl, by decide, by decide, by decide +kernel⟩ rfl (by decide) (by decide) (ci := 3) rfl rfl 0 rfl [0, 1, 2, 3, 4, 5, 6, 7, 8, 9, 10, 11, 12, 13, 14, 15] [] rfl rfl (by decide) (by decide) (by decide) rfl (Nat.le_of_ble_eq_true rfl) (by omega) (by omega) d_No_vacateAllOthers_19 (fun ad19 => ?_)
      refine x_nf (ws' := [((ob0 0), .inr (3, [.ref (ad0 0), .ref (ad0 1), .ref (ad0 2), .ref (ad0 3), .ref (ad0 4), .ref (ad0 5), .ref (ad0 6), .ref (ad0 7), .int (No_top s0), .int (No_lowest s0), .int (No_alive s0), .int (No_marks s0), .ref (ob0 1), .ref (ob0 2)])), ((ad0 0), .inl (cA 0, (No_kinds s0).1, .inl (No_kinds s0).2)), ((ad0 1), .inl (cA 0, (No_values s0).1, .inl (No_values s0).2)), ((ad0 2), .inl (cA 0, (No_starts s0).1, .inl (No_starts s0).2)), ((ad0 3), .inl (cA 0, (No_sizes s0).1, .inl (No_sizes s0).2)), ((ad0 4), .inl (cA 0, (No_lead s0).1, .inl (No_lead s0).2)), ((ad0 5), .inl (cA 0, (No_bodies s0).1, .inl (No_bodies s0).2)), ((ad0 6), .inl (cA 0, (No_needed s0).1, .inl (No_needed s0).2)), ((ad0 7), .inl (cA 0, (No_marked s0).1, .inl (No_marked s0).2)), ((ob0 1), .inr (0, [.ref (ad0 8), .ref (ad0 9), .int (Fi_used (No_fields s0)), .ref (ad0 10), .ref (ad0 11), .int (Fi_nextUsed (No_fields s0))])), ((ad0 8), .inl (cA 0, (Fi_features (No_fields s0)).1, .inl (Fi_features (No_fields s0)).2)), ((ad0 9), .inl (cA 0, (Fi_parts (No_fields s0)).1, .inl (Fi_parts (No_fields s0)).2)), ((ad0 10), .inl (cA 0, (Fi_nextFeatures (No_fields s0)).1, .inl (Fi_nextFeatures (No_fields s0)).2)), ((ad0 11), .inl (cA 0, (Fi_nextParts (No_fields s0)).1, .inl (Fi_nextParts (No_fields s0)).2)), ((ob0 2), .inr (1, [.ref (ad0 12), .int (Ld_size (No_reached s0))])), ((ad0 12), .inl (cA 0, (Ld_row (No_reached s0)).1, .inl (Ld_row (No_reached s0)).2))]) (st' := [.int o15]) rfl rfl ?_
      refine x_if_eq F 49 d_No_vacateAllOthers_22 (by decide) (fun c20 => ?_) (fun c20 => ?_)
      · replace hm := xm_t hm c20
        refine x_aload_n F d_No_vacateAllOthers_49 0 rfl rfl ?_
        refine x_iload_n F d_No_vacateAllOthers_50 2 rfl rfl ?_
        replace hm := xm_b_some hm
        obtain ⟨o21, k22, k23, h24, hm, c_o21, d_o21⟩ := hm
        refine x_callV (n := 1) (C := R_No) (wr := []) F (c_No_vacate l D cA n ob0 ad0 s0 x2 o21 k22 h24) kw_343 kw_340 kw_342 kw_3 kw_40 ⟨rfl, by decide, by decide, by decide +kernel⟩ rfl (by decide) (by decide) (ci := 3) rfl rfl 0 rfl [0, 1, 2, 3, 4, 5, 6, 7, 8, 9, 10, 11, 12, 13, 14, 15] [] rfl rfl (by decide) (by decide) (by decide) rfl (Nat.le_of_ble_eq_true rfl) (by omega) (by omega) d_No_vacateAllOthers_51 (fun ad25 => ?_)
        refine x_nf (ws' := [((ob0 0), .inr (3, [.ref (ad25 0), .ref (ad25 1), .ref (ad25 2), .ref (ad25 3), .ref (ad25 4), .ref (ad25 5), .ref (ad25 6), .ref (ad25 7), .int (No_top o21), .int (No_lowest o21), .int (No_alive o21), .int (No_marks o21), .ref (ob0 1), .ref (ob0 2)])), ((ad25 0), .inl (cA 0, (No_kinds o21).1, .inl (No_kinds o21).2)), ((ad25 1), .inl (cA 0, (No_values o21).1, .inl (No_values o21).2)), ((ad25 2), .inl (cA 0, (No_starts o21).1, .inl (No_starts o21).2)), ((ad25 3), .inl (cA 0, (No_sizes o21).1, .inl (No_sizes o21).2)), ((ad25 4), .inl (cA 0, (No_lead o21).1, .inl (No_lead o21).2)), ((ad25 5), .inl (cA 0, (No_bodies o21).1, .inl (No_bodies o21).2)), ((ad25 6), .inl (cA 0, (No_needed o21).1, .inl (No_needed o21).2)), ((ad25 7), .inl (cA 0, (No_marked o21).1, .inl (No_marked o21).2)), ((ob0 1), .inr (0, [.ref (ad25 8), .ref (ad25 9), .int (Fi_used (No_fields o21)), .ref (ad25 10), .ref (ad25 11), .int (Fi_nextUsed (No_fields o21))])), ((ad25 8), .inl (cA 0, (Fi_features (No_fields o21)).1, .inl (Fi_features (No_fields o21)).2)), ((ad25 9), .inl (cA 0, (Fi_parts (No_fields o21)).1, .inl (Fi_parts (No_fields o21)).2)), ((ad25 10), .inl (cA 0, (Fi_nextFeatures (No_fields o21)).1, .inl (Fi_nextFeatures (No_fields o21)).2)), ((ad25 11), .inl (cA 0, (Fi_nextParts (No_fields o21)).1, .inl (Fi_nextParts (No_fields o21)).2)), ((ob0 2), .inr (1, [.ref (ad25 12), .int (Ld_size (No_reached o21))])), ((ad25 12), .inl (cA 0, (Ld_row (No_reached o21)).1, .inl (Ld_row (No_reached o21)).2))]) (st' := []) rfl rfl ?_
        refine x_iinc (v := (x2 + 1)) (lv' := [(2, .int (x2 + 1)), (0, .ref (ob0 0)), (1, .int x1)]) F d_No_vacateAllOthers_54 2 rfl rfl (by decide) rfl ?_
        refine x_goto F 9 d_No_vacateAllOthers_57 (by decide) ?_
        refine x_sub [0, 1, 2, 3, 4, 5, 6, 7, 8, 9, 10, 11, 12, 13, 14, 15] (by decide) ?_ (x_lv [1, 2, 0] ?_ (ih x1 (x2 + 1) o21 ad25 _ _ out k23 hm (by omega) (by omega) (fun ad => x_cs (by omega) (by omega) (KX ad))))
        · rfl
        · rfl
      · replace hm := xm_f hm c20
        refine x_aload_n F d_No_vacateAllOthers_25 0 rfl rfl ?_
        refine x_get F ck_No hin_No 0 7 rfl (by decide) kw_138 rfl rfl d_No_vacateAllOthers_26 ?_
        refine x_iload_n F d_No_vacateAllOthers_29 2 rfl rfl ?_
        refine x_iconst (v := (0 : Int32)) F d_No_vacateAllOthers_30 (by decide) ?_
        replace hm := xm_wr_some hm
        obtain ⟨a26, e_a26, b_a26, hm⟩ := hm
        refine x_iast (x := (No_marked s0)) (x' := a26) (ws' := [((ob0 0), .inr (3, [.ref (ad0 0), .ref (ad0 1), .ref (ad0 2), .ref (ad0 3), .ref (ad0 4), .ref (ad0 5), .ref (ad0 6), .ref (ad0 7), .int (No_top s0), .int (No_lowest s0), .int (No_alive s0), .int (No_marks s0), .ref (ob0 1), .ref (ob0 2)])), ((ad0 0), .inl (cA 0, (No_kinds s0).1, .inl (No_kinds s0).2)), ((ad0 1), .inl (cA 0, (No_values s0).1, .inl (No_values s0).2)), ((ad0 2), .inl (cA 0, (No_starts s0).1, .inl (No_starts s0).2)), ((ad0 3), .inl (cA 0, (No_sizes s0).1, .inl (No_sizes s0).2)), ((ad0 4), .inl (cA 0, (No_lead s0).1, .inl (No_lead s0).2)), ((ad0 5), .inl (cA 0, (No_bodies s0).1, .inl (No_bodies s0).2)), ((ad0 6), .inl (cA 0, (No_needed s0).1, .inl (No_needed s0).2)), ((ad0 7), .inl (cA 0, a26.1, .inl a26.2)), ((ob0 1), .inr (0, [.ref (ad0 8), .ref (ad0 9), .int (Fi_used (No_fields s0)), .ref (ad0 10), .ref (ad0 11), .int (Fi_nextUsed (No_fields s0))])), ((ad0 8), .inl (cA 0, (Fi_features (No_fields s0)).1, .inl (Fi_features (No_fields s0)).2)), ((ad0 9), .inl (cA 0, (Fi_parts (No_fields s0)).1, .inl (Fi_parts (No_fields s0)).2)), ((ad0 10), .inl (cA 0, (Fi_nextFeatures (No_fields s0)).1, .inl (Fi_nextFeatures (No_fields s0)).2)), ((ad0 11), .inl (cA 0, (Fi_nextParts (No_fields s0)).1, .inl (Fi_nextParts (No_fields s0)).2)), ((ob0 2), .inr (1, [.ref (ad0 12), .int (Ld_size (No_reached s0))])), ((ad0 12), .inl (cA 0, (Ld_row (No_reached s0)).1, .inl (Ld_row (No_reached s0)).2))]) F 8 rfl e_a26 b_a26 rfl d_No_vacateAllOthers_31 ?_
        refine x_iload_n F d_No_vacateAllOthers_32 2 rfl rfl ?_
        refine x_iconst (v := (1 : Int32)) F d_No_vacateAllOthers_33 (by decide) ?_
        refine x_iadd F d_No_vacateAllOthers_34 ?_
        refine x_istore_n (lv' := [(1, .int (x2 + (1 : Int32))), (0, .ref (ob0 0)), (2, .int x2)]) F d_No_vacateAllOthers_35 rfl (by decide) rfl ?_
        refine x_aload_n F d_No_vacateAllOthers_36 1 rfl rfl ?_
        refine x_dup F d_No_vacateAllOthers_37 rfl ?_
        refine x_get F ck_No hin_No 0 10 rfl (by decide) kw_143 rfl rfl d_No_vacateAllOthers_38 ?_
        refine x_iconst (v := (1 : Int32)) F d_No_vacateAllOthers_41 (by decide) ?_
        refine x_iadd F d_No_vacateAllOthers_42 ?_
        refine x_put (ws' := [((ob0 0), .inr (3, [.ref (ad0 0), .ref (ad0 1), .ref (ad0 2), .ref (ad0 3), .ref (ad0 4), .ref (ad0 5), .ref (ad0 6), .ref (ad0 7), .int (No_top s0), .int (No_lowest s0), .int ((No_alive s0) + (1 : Int32)), .int (No_marks s0), .ref (ob0 1), .ref (ob0 2)])), ((ad0 0), .inl (cA 0, (No_kinds s0).1, .inl (No_kinds s0).2)), ((ad0 1), .inl (cA 0, (No_values s0).1, .inl (No_values s0).2)), ((ad0 2), .inl (cA 0, (No_starts s0).1, .inl (No_starts s0).2)), ((ad0 3), .inl (cA 0, (No_sizes s0).1, .inl (No_sizes s0).2)), ((ad0 4), .inl (cA 0, (No_lead s0).1, .inl (No_lead s0).2)), ((ad0 5), .inl (cA 0, (No_bodies s0).1, .inl (No_bodies s0).2)), ((ad0 6), .inl (cA 0, (No_needed s0).1, .inl (No_needed s0).2)), ((ad0 7), .inl (cA 0, a26.1, .inl a26.2)), ((ob0 1), .inr (0, [.ref (ad0 8), .ref (ad0 9), .int (Fi_used (No_fields s0)), .ref (ad0 10), .ref (ad0 11), .int (Fi_nextUsed (No_fields s0))])), ((ad0 8), .inl (cA 0, (Fi_features (No_fields s0)).1, .inl (Fi_features (No_fields s0)).2)), ((ad0 9), .inl (cA 0, (Fi_parts (No_fields s0)).1, .inl (Fi_parts (No_fields s0)).2)), ((ad0 10), .inl (cA 0, (Fi_nextFeatures (No_fields s0)).1, .inl (Fi_nextFeatures (No_fields s0)).2)), ((ad0 11), .inl (cA 0, (Fi_nextParts (No_fields s0)).1, .inl (Fi_nextParts (No_fields s0)).2)), ((ob0 2), .inr (1, [.ref (ad0 12), .int (Ld_size (No_reached s0))])), ((ad0 12), .inl (cA 0, (Ld_row (No_reached s0)).1, .inl (Ld_row (No_reached s0)).2))]) F ck_No hin_No 0 10 rfl (by decide) kw_143 rfl rfl rfl rfl (Nat.le_of_ble_eq_true rfl) rfl d_No_vacateAllOthers_43 ?_
        refine x_goto F 54 d_No_vacateAllOthers_46 (by decide) ?_
        refine x_iinc (v := (x2 + 1)) (lv' := [(2, .int (x2 + 1)), (1, .int (x2 + (1 : Int32))), (0, .ref (ob0 0))]) F d_No_vacateAllOthers_54 2 rfl rfl (by decide) rfl ?_
        refine x_goto F 9 d_No_vacateAllOthers_57 (by decide) ?_
        refine x_sub [0, 1, 2, 3, 4, 5, 6, 7, 8, 9, 10, 11, 12, 13, 14, 15] (by decide) ?_ (x_lv [2, 1, 0] ?_ (ih (x2 + (1 : Int32)) (x2 + 1) ((No_kinds s0), (No_values s0), (No_starts s0), (No_sizes s0), (No_lead s0), (No_bodies s0), (No_needed s0), a26, (No_top s0), (No_lowest s0), ((No_alive s0) + (1 : Int32)), (No_marks s0), (No_fields s0), (No_reached s0)) ad0 _ _ out k17 hm (by omega) (by omega) (fun ad => x_cs (by omega) (by omega) (KX ad))))
        · rfl
        · rfl
set_option maxHeartbeats 4000000 in
set_option maxRecDepth 100000 in
theorem c_No_vacateAllOthers (l : Launch) (D : va_G) (cA : Nat → ClassId) (n : Nat) (ob0 ad0 : Nat → Nat) (s0 : S_No)  (out : S_No) (k : KC) (hm : m_No_vacateAllOthers n s0  = some (out, k)) : XM l D cA y_No_vacateAllOthers b_No_vacateAllOthers 3 none 1 21 [.ref (ob0 0)] ((w_No cA ob0 ad0  s0)) k (fun _ => none) (fun ad => (w_No cA ob0 ad  out)) := by
  refine x_met (cc := b_No_vacateAllOthers) (nL := 3) (ret := none) R_No (by decide) (Nat.le_of_ble_eq_true rfl) rfl (fun X F I E => ?_)
  unfold m_No_vacateAllOthers at hm
  refine x_nf2 (ws' := [((ob0 0), .inr (3, [.ref (ad0 0), .ref (ad0 1), .ref (ad0 2), .ref (ad0 3), .ref (ad0 4), .ref (ad0 5), .ref (ad0 6), .ref (ad0 7), .int (No_top s0), .int (No_lowest s0), .int (No_alive s0), .int (No_marks s0), .ref (ob0 1), .ref (ob0 2)])), ((ad0 0), .inl (cA 0, (No_kinds s0).1, .inl (No_kinds s0).2)), ((ad0 1), .inl (cA 0, (No_values s0).1, .inl (No_values s0).2)), ((ad0 2), .inl (cA 0, (No_starts s0).1, .inl (No_starts s0).2)), ((ad0 3), .inl (cA 0, (No_sizes s0).1, .inl (No_sizes s0).2)), ((ad0 4), .inl (cA 0, (No_lead s0).1, .inl (No_lead s0).2)), ((ad0 5), .inl (cA 0, (No_bodies s0).1, .inl (No_bodies s0).2)), ((ad0 6), .inl (cA 0, (No_needed s0).1, .inl (No_needed s0).2)), ((ad0 7), .inl (cA 0, (No_marked s0).1, .inl (No_marked s0).2)), ((ob0 1), .inr (0, [.ref (ad0 8), .ref (ad0 9), .int (Fi_used (No_fields s0)), .ref (ad0 10), .ref (ad0 11), .int (Fi_nextUsed (No_fields s0))])), ((ad0 8), .inl (cA 0, (Fi_features (No_fields s0)).1, .inl (Fi_features (No_fields s0)).2)), ((ad0 9), .inl (cA 0, (Fi_parts (No_fields s0)).1, .inl (Fi_parts (No_fields s0)).2)), ((ad0 10), .inl (cA 0, (Fi_nextFeatures (No_fields s0)).1, .inl (Fi_nextFeatures (No_fields s0)).2)), ((ad0 11), .inl (cA 0, (Fi_nextParts (No_fields s0)).1, .inl (Fi_nextParts (No_fields s0)).2)), ((ob0 2), .inr (1, [.ref (ad0 12), .int (Ld_size (No_reached s0))])), ((ad0 12), .inl (cA 0, (Ld_row (No_reached s0)).1, .inl (Ld_row (No_reached s0)).2))]) (lv' := [(0, .ref (ob0 0))]) rfl rfl ?_
  refine x_iconst (v := (0 : Int32)) F d_No_vacateAllOthers_0 (by decide) ?_
  refine x_istore_n (lv' := [(1, .int (0 : Int32)), (0, .ref (ob0 0))]) F d_No_vacateAllOthers_1 rfl (by decide) rfl ?_
  refine x_aload_n F d_No_vacateAllOthers_2 1 rfl rfl ?_
  refine x_iconst (v := (0 : Int32)) F d_No_vacateAllOthers_3 (by decide) ?_
  refine x_put (ws' := [((ob0 0), .inr (3, [.ref (ad0 0), .ref (ad0 1), .ref (ad0 2), .ref (ad0 3), .ref (ad0 4), .ref (ad0 5), .ref (ad0 6), .ref (ad0 7), .int (No_top s0), .int (No_lowest s0), .int (0 : Int32), .int (No_marks s0), .ref (ob0 1), .ref (ob0 2)])), ((ad0 0), .inl (cA 0, (No_kinds s0).1, .inl (No_kinds s0).2)), ((ad0 1), .inl (cA 0, (No_values s0).1, .inl (No_values s0).2)), ((ad0 2), .inl (cA 0, (No_starts s0).1, .inl (No_starts s0).2)), ((ad0 3), .inl (cA 0, (No_sizes s0).1, .inl (No_sizes s0).2)), ((ad0 4), .inl (cA 0, (No_lead s0).1, .inl (No_lead s0).2)), ((ad0 5), .inl (cA 0, (No_bodies s0).1, .inl (No_bodies s0).2)), ((ad0 6), .inl (cA 0, (No_needed s0).1, .inl (No_needed s0).2)), ((ad0 7), .inl (cA 0, (No_marked s0).1, .inl (No_marked s0).2)), ((ob0 1), .inr (0, [.ref (ad0 8), .ref (ad0 9), .int (Fi_used (No_fields s0)), .ref (ad0 10), .ref (ad0 11), .int (Fi_nextUsed (No_fields s0))])), ((ad0 8), .inl (cA 0, (Fi_features (No_fields s0)).1, .inl (Fi_features (No_fields s0)).2)), ((ad0 9), .inl (cA 0, (Fi_parts (No_fields s0)).1, .inl (Fi_parts (No_fields s0)).2)), ((ad0 10), .inl (cA 0, (Fi_nextFeatures (No_fields s0)).1, .inl (Fi_nextFeatures (No_fields s0)).2)), ((ad0 11), .inl (cA 0, (Fi_nextParts (No_fields s0)).1, .inl (Fi_nextParts (No_fields s0)).2)), ((ob0 2), .inr (1, [.ref (ad0 12), .int (Ld_size (No_reached s0))])), ((ad0 12), .inl (cA 0, (Ld_row (No_reached s0)).1, .inl (Ld_row (No_reached s0)).2))]) F ck_No hin_No 0 10 rfl (by decide) kw_143 rfl rfl rfl rfl (Nat.le_of_ble_eq_true rfl) rfl d_No_vacateAllOthers_4 ?_
  refine x_iconst (v := (0 : Int32)) F d_No_vacateAllOthers_7 (by decide) ?_
  refine x_istore_n (lv' := [(2, .int (0 : Int32)), (1, .int (0 : Int32)), (0, .ref (ob0 0))]) F d_No_vacateAllOthers_8 rfl (by decide) rfl ?_
  replace hm := xm_b_some hm
  obtain ⟨o27, k28, k29, h30, hm, c_o27, d_o27⟩ := hm
  refine x_sub [0, 1, 2, 3, 4, 5, 6, 7, 8, 9, 10, 11, 12, 13, 14, 15] (by decide) ?_ (x_lv [2, 1, 0] ?_ (wl_No_vacateAllOthers_9 F n ob0   n (0 : Int32) (0 : Int32) ((No_kinds s0), (No_values s0), (No_starts s0), (No_sizes s0), (No_lead s0), (No_bodies s0), (No_needed s0), (No_marked s0), (No_top s0), (No_lowest s0), (0 : Int32), (No_marks s0), (No_fields s0), (No_reached s0)) ad0 _ _ o27 k28 h30 (by omega) (by omega) (fun ad31 => ?_)))
  · rfl
  · rfl
  refine x_nf2 (ws' := [((ob0 0), .inr (3, [.ref (ad31 0), .ref (ad31 1), .ref (ad31 2), .ref (ad31 3), .ref (ad31 4), .ref (ad31 5), .ref (ad31 6), .ref (ad31 7), .int (No_top (o27.2.2)), .int (No_lowest (o27.2.2)), .int (No_alive (o27.2.2)), .int (No_marks (o27.2.2)), .ref (ob0 1), .ref (ob0 2)])), ((ad31 0), .inl (cA 0, (No_kinds (o27.2.2)).1, .inl (No_kinds (o27.2.2)).2)), ((ad31 1), .inl (cA 0, (No_values (o27.2.2)).1, .inl (No_values (o27.2.2)).2)), ((ad31 2), .inl (cA 0, (No_starts (o27.2.2)).1, .inl (No_starts (o27.2.2)).2)), ((ad31 3), .inl (cA 0, (No_sizes (o27.2.2)).1, .inl (No_sizes (o27.2.2)).2)), ((ad31 4), .inl (cA 0, (No_lead (o27.2.2)).1, .inl (No_lead (o27.2.2)).2)), ((ad31 5), .inl (cA 0, (No_bodies (o27.2.2)).1, .inl (No_bodies (o27.2.2)).2)), ((ad31 6), .inl (cA 0, (No_needed (o27.2.2)).1, .inl (No_needed (o27.2.2)).2)), ((ad31 7), .inl (cA 0, (No_marked (o27.2.2)).1, .inl (No_marked (o27.2.2)).2)), ((ob0 1), .inr (0, [.ref (ad31 8), .ref (ad31 9), .int (Fi_used (No_fields (o27.2.2))), .ref (ad31 10), .ref (ad31 11), .int (Fi_nextUsed (No_fields (o27.2.2)))])), ((ad31 8), .inl (cA 0, (Fi_features (No_fields (o27.2.2))).1, .inl (Fi_features (No_fields (o27.2.2))).2)), ((ad31 9), .inl (cA 0, (Fi_parts (No_fields (o27.2.2))).1, .inl (Fi_parts (No_fields (o27.2.2))).2)), ((ad31 10), .inl (cA 0, (Fi_nextFeatures (No_fields (o27.2.2))).1, .inl (Fi_nextFeatures (No_fields (o27.2.2))).2)), ((ad31 11), .inl (cA 0, (Fi_nextParts (No_fields (o27.2.2))).1, .inl (Fi_nextParts (No_fields (o27.2.2))).2)), ((ob0 2), .inr (1, [.ref (ad31 12), .int (Ld_size (No_reached (o27.2.2)))])), ((ad31 12), .inl (cA 0, (Ld_row (No_reached (o27.2.2))).1, .inl (Ld_row (No_reached (o27.2.2))).2))]) (lv' := [(0, .ref (ob0 0)), (1, .int (o27.1)), (2, .int (o27.2.1))]) rfl rfl ?_
  refine x_aload_n F d_No_vacateAllOthers_60 0 rfl rfl ?_
  refine x_iload_n F d_No_vacateAllOthers_61 1 rfl rfl ?_
  refine x_put (ws' := [((ob0 0), .inr (3, [.ref (ad31 0), .ref (ad31 1), .ref (ad31 2), .ref (ad31 3), .ref (ad31 4), .ref (ad31 5), .ref (ad31 6), .ref (ad31 7), .int (o27.1), .int (No_lowest (o27.2.2)), .int (No_alive (o27.2.2)), .int (No_marks (o27.2.2)), .ref (ob0 1), .ref (ob0 2)])), ((ad31 0), .inl (cA 0, (No_kinds (o27.2.2)).1, .inl (No_kinds (o27.2.2)).2)), ((ad31 1), .inl (cA 0, (No_values (o27.2.2)).1, .inl (No_values (o27.2.2)).2)), ((ad31 2), .inl (cA 0, (No_starts (o27.2.2)).1, .inl (No_starts (o27.2.2)).2)), ((ad31 3), .inl (cA 0, (No_sizes (o27.2.2)).1, .inl (No_sizes (o27.2.2)).2)), ((ad31 4), .inl (cA 0, (No_lead (o27.2.2)).1, .inl (No_lead (o27.2.2)).2)), ((ad31 5), .inl (cA 0, (No_bodies (o27.2.2)).1, .inl (No_bodies (o27.2.2)).2)), ((ad31 6), .inl (cA 0, (No_needed (o27.2.2)).1, .inl (No_needed (o27.2.2)).2)), ((ad31 7), .inl (cA 0, (No_marked (o27.2.2)).1, .inl (No_marked (o27.2.2)).2)), ((ob0 1), .inr (0, [.ref (ad31 8), .ref (ad31 9), .int (Fi_used (No_fields (o27.2.2))), .ref (ad31 10), .ref (ad31 11), .int (Fi_nextUsed (No_fields (o27.2.2)))])), ((ad31 8), .inl (cA 0, (Fi_features (No_fields (o27.2.2))).1, .inl (Fi_features (No_fields (o27.2.2))).2)), ((ad31 9), .inl (cA 0, (Fi_parts (No_fields (o27.2.2))).1, .inl (Fi_parts (No_fields (o27.2.2))).2)), ((ad31 10), .inl (cA 0, (Fi_nextFeatures (No_fields (o27.2.2))).1, .inl (Fi_nextFeatures (No_fields (o27.2.2))).2)), ((ad31 11), .inl (cA 0, (Fi_nextParts (No_fields (o27.2.2))).1, .inl (Fi_nextParts (No_fields (o27.2.2))).2)), ((ob0 2), .inr (1, [.ref (ad31 12), .int (Ld_size (No_reached (o27.2.2)))])), ((ad31 12), .inl (cA 0, (Ld_row (No_reached (o27.2.2))).1, .inl (Ld_row (No_reached (o27.2.2))).2))]) F ck_No hin_No 0 8 rfl (by decide) kw_139 rfl rfl rfl rfl (Nat.le_of_ble_eq_true rfl) rfl d_No_vacateAllOthers_62 ?_
  refine x_aload_n F d_No_vacateAllOthers_65 0 rfl rfl ?_
  refine x_iconst (v := (0 : Int32)) F d_No_vacateAllOthers_66 (by decide) ?_
  refine x_put (ws' := [((ob0 0), .inr (3, [.ref (ad31 0), .ref (ad31 1), .ref (ad31 2), .ref (ad31 3), .ref (ad31 4), .ref (ad31 5), .ref (ad31 6), .ref (ad31 7), .int (o27.1), .int (0 : Int32), .int (No_alive (o27.2.2)), .int (No_marks (o27.2.2)), .ref (ob0 1), .ref (ob0 2)])), ((ad31 0), .inl (cA 0, (No_kinds (o27.2.2)).1, .inl (No_kinds (o27.2.2)).2)), ((ad31 1), .inl (cA 0, (No_values (o27.2.2)).1, .inl (No_values (o27.2.2)).2)), ((ad31 2), .inl (cA 0, (No_starts (o27.2.2)).1, .inl (No_starts (o27.2.2)).2)), ((ad31 3), .inl (cA 0, (No_sizes (o27.2.2)).1, .inl (No_sizes (o27.2.2)).2)), ((ad31 4), .inl (cA 0, (No_lead (o27.2.2)).1, .inl (No_lead (o27.2.2)).2)), ((ad31 5), .inl (cA 0, (No_bodies (o27.2.2)).1, .inl (No_bodies (o27.2.2)).2)), ((ad31 6), .inl (cA 0, (No_needed (o27.2.2)).1, .inl (No_needed (o27.2.2)).2)), ((ad31 7), .inl (cA 0, (No_marked (o27.2.2)).1, .inl (No_marked (o27.2.2)).2)), ((ob0 1), .inr (0, [.ref (ad31 8), .ref (ad31 9), .int (Fi_used (No_fields (o27.2.2))), .ref (ad31 10), .ref (ad31 11), .int (Fi_nextUsed (No_fields (o27.2.2)))])), ((ad31 8), .inl (cA 0, (Fi_features (No_fields (o27.2.2))).1, .inl (Fi_features (No_fields (o27.2.2))).2)), ((ad31 9), .inl (cA 0, (Fi_parts (No_fields (o27.2.2))).1, .inl (Fi_parts (No_fields (o27.2.2))).2)), ((ad31 10), .inl (cA 0, (Fi_nextFeatures (No_fields (o27.2.2))).1, .inl (Fi_nextFeatures (No_fields (o27.2.2))).2)), ((ad31 11), .inl (cA 0, (Fi_nextParts (No_fields (o27.2.2))).1, .inl (Fi_nextParts (No_fields (o27.2.2))).2)), ((ob0 2), .inr (1, [.ref (ad31 12), .int (Ld_size (No_reached (o27.2.2)))])), ((ad31 12), .inl (cA 0, (Ld_row (No_reached (o27.2.2))).1, .inl (Ld_row (No_reached (o27.2.2))).2))]) F ck_No hin_No 0 9 rfl (by decide) kw_142 rfl rfl rfl rfl (Nat.le_of_ble_eq_true rfl) rfl d_No_vacateAllOthers_67 ?_
  refine x_aload_n F d_No_vacateAllOthers_70 0 rfl rfl ?_
  refine x_iconst (v := (0 : Int32)) F d_No_vacateAllOthers_71 (by decide) ?_
  refine x_put (ws' := [((ob0 0), .inr (3, [.ref (ad31 0), .ref (ad31 1), .ref (ad31 2), .ref (ad31 3), .ref (ad31 4), .ref (ad31 5), .ref (ad31 6), .ref (ad31 7), .int (o27.1), .int (0 : Int32), .int (No_alive (o27.2.2)), .int (0 : Int32), .ref (ob0 1), .ref (ob0 2)])), ((ad31 0), .inl (cA 0, (No_kinds (o27.2.2)).1, .inl (No_kinds (o27.2.2)).2)), ((ad31 1), .inl (cA 0, (No_values (o27.2.2)).1, .inl (No_values (o27.2.2)).2)), ((ad31 2), .inl (cA 0, (No_starts (o27.2.2)).1, .inl (No_starts (o27.2.2)).2)), ((ad31 3), .inl (cA 0, (No_sizes (o27.2.2)).1, .inl (No_sizes (o27.2.2)).2)), ((ad31 4), .inl (cA 0, (No_lead (o27.2.2)).1, .inl (No_lead (o27.2.2)).2)), ((ad31 5), .inl (cA 0, (No_bodies (o27.2.2)).1, .inl (No_bodies (o27.2.2)).2)), ((ad31 6), .inl (cA 0, (No_needed (o27.2.2)).1, .inl (No_needed (o27.2.2)).2)), ((ad31 7), .inl (cA 0, (No_marked (o27.2.2)).1, .inl (No_marked (o27.2.2)).2)), ((ob0 1), .inr (0, [.ref (ad31 8), .ref (ad31 9), .int (Fi_used (No_fields (o27.2.2))), .ref (ad31 10), .ref (ad31 11), .int (Fi_nextUsed (No_fields (o27.2.2)))])), ((ad31 8), .inl (cA 0, (Fi_features (No_fields (o27.2.2))).1, .inl (Fi_features (No_fields (o27.2.2))).2)), ((ad31 9), .inl (cA 0, (Fi_parts (No_fields (o27.2.2))).1, .inl (Fi_parts (No_fields (o27.2.2))).2)), ((ad31 10), .inl (cA 0, (Fi_nextFeatures (No_fields (o27.2.2))).1, .inl (Fi_nextFeatures (No_fields (o27.2.2))).2)), ((ad31 11), .inl (cA 0, (Fi_nextParts (No_fields (o27.2.2))).1, .inl (Fi_nextParts (No_fields (o27.2.2))).2)), ((ob0 2), .inr (1, [.ref (ad31 12), .int (Ld_size (No_reached (o27.2.2)))])), ((ad31 12), .inl (cA 0, (Ld_row (No_reached (o27.2.2))).1, .inl (Ld_row (No_reached (o27.2.2))).2))]) F ck_No hin_No 0 11 rfl (by decide) kw_145 rfl rfl rfl rfl (Nat.le_of_ble_eq_true rfl) rfl d_No_vacateAllOthers_72 ?_
  replace hm := xm_p_some hm
  obtain ⟨eo, c_o, d_o⟩ := hm
  subst eo
  refine x_sub [0, 1, 2, 3, 4, 5, 6, 7, 8, 9, 10, 11, 12, 13, 14, 15] (by decide) ?_ (xe_v E ad31 (by omega) (by omega)  d_No_vacateAllOthers_75)
  rfl
