noncomputable def m_No_vacate (n : Nat) (s0 : S_No) (p0 : Int32) : MO (S_No) := (xm_wr (No_kinds s0) p0 (-1 : Int32) (fun a9 => (xm_wr (No_values s0) p0 (0 : Int32) (fun a10 => (xm_wr (No_starts s0) p0 (0 : Int32) (fun a11 => (xm_wr (No_sizes s0) p0 (0 : Int32) (fun a12 => (xm_wr (No_lead s0) p0 p0 (fun a13 => (xm_wr (No_bodies s0) p0 p0 (fun a14 => (xm_wr (No_needed s0) p0 (0 : Int32) (fun a15 => (xm_wr (No_marked s0) p0 (0 : Int32) (fun a16 => (xm_p (a9, a10, a11, a12, a13, a14, a15, a16, (No_top s0), (No_lowest s0), (No_alive s0), (No_marks s0), (No_fields s0), (No_reached s0)))))))))))))))))))
set_option maxHeartbeats 4000000 in
set_option maxRecDepth 100000 in
theorem c_No_vacate (l : Launch) (D : va_G) (cA : Nat → ClassId) (n : Nat) (ob0 ad0 : Nat → Nat) (s0 : S_No) (p0 : Int32) (out : S_No) (k : KC) (hm : m_No_vacate n s0 p0 = some (out, k)) : XM l D cA y_No_vacate b_No_vacate 2 none 0 0 [.ref (ob0 0), .int p0] ((w_No cA ob0 ad0  s0)) k (fun _ => none) (fun ad => (w_No cA ob0 ad  out)) := by
  refine x_met (cc := b_No_vacate) (nL := 2) (ret := none) R_No (by decide) (Nat.le_of_ble_eq_true rfl) rfl (fun X F I E => ?_)
  unfold m_No_vacate at hm
  refine x_nf2 (ws' := [((ob0 0), .inr (3, [.ref (ad0 0), .ref (ad0 1), .ref (ad0 2), .ref (ad0 3), .ref (ad0 4), .ref (ad0 5), .ref (ad0 6), .ref (ad0 7), .int (No_top s0), .int (No_lowest s0), .int (No_alive s0), .int (No_marks s0), .ref (ob0 1), .ref (ob0 2)])), ((ad0 0), .inl (cA 0, (No_kinds s0).1, .inl (No_kinds s0).2)), ((ad0 1), .inl (cA 0, (No_values s0).1, .inl (No_values s0).2)), ((ad0 2), .inl (cA 0, (No_starts s0).1, .inl (No_starts s0).2)), ((ad0 3), .inl (cA 0, (No_sizes s0).1, .inl (No_sizes s0).2)), ((ad0 4), .inl (cA 0, (No_lead s0).1, .inl (No_lead s0).2)), ((ad0 5), .inl (cA 0, (No_bodies s0).1, .inl (No_bodies s0).2)), ((ad0 6), .inl (cA 0, (No_needed s0).1, .inl (No_needed s0).2)), ((ad0 7), .inl (cA 0, (No_marked s0).1, .inl (No_marked s0).2)), ((ob0 1), .inr (0, [.ref (ad0 8), .ref (ad0 9), .int (Fi_used (No_fields s0)), .ref (ad0 10), .ref (ad0 11), .int (Fi_nextUsed (No_fields s0))])), ((ad0 8), .inl (cA 0, (Fi_features (No_fields s0)).1, .inl (Fi_features (No_fields s0)).2)), ((ad0 9), .inl (cA 0, (Fi_parts (No_fields s0)).1, .inl (Fi_parts (No_fields s0)).2)), ((ad0 10), .inl (cA 0, (Fi_nextFeatures (No_fields s0)).1, .inl (Fi_nextFeatures (No_fields s0)).2)), ((ad0 11), .inl (cA 0, (Fi_nextParts (No_fields s0)).1, .inl (Fi_nextParts (No_fields s0)).2)), ((ob0 2), .inr (1, [.ref (ad0 12), .int (Ld_size (No_reached s0))])), ((ad0 12), .inl (cA 0, (Ld_row (No_reached s0)).1, .inl (Ld_row (No_reached s0)).2))]) (lv' := [(0, .ref (ob0 0)), (1, .int p0)]) rfl rfl ?_
  refine x_aload_n F d_No_vacate_0 0 rfl rfl ?_
  refine x_get F ck_No hin_No 0 0 rfl (by decide) kw_114 rfl rfl d_No_vacate_1 ?_
  refine x_iload_n F d_No_vacate_4 1 rfl rfl ?_
  refine x_iconst (v := (-1 : Int32)) F d_No_vacate_5 (by decide) ?_
  replace hm := xm_wr_some hm
  obtain ⟨a9, e_a9, b_a9, hm⟩ := hm
  refine x_iast (x := (No_kinds s0)) (x' := a9) (ws' := [((ob0 0), .inr (3, [.ref (ad0 0), .ref (ad0 1), .ref (ad0 2), .ref (ad0 3), .ref (ad0 4), .ref (ad0 5), .ref (ad0 6), .ref (ad0 7), .int (No_top s0), .int (No_lowest s0), .int (No_alive s0), .int (No_marks s0), .ref (ob0 1), .ref (ob0 2)])), ((ad0 0), .inl (cA 0, a9.1, .inl a9.2)), ((ad0 1), .inl (cA 0, (No_values s0).1, .inl (No_values s0).2)), ((ad0 2), .inl (cA 0, (No_starts s0).1, .inl (No_starts s0).2)), ((ad0 3), .inl (cA 0, (No_sizes s0).1, .inl (No_sizes s0).2)), ((ad0 4), .inl (cA 0, (No_lead s0).1, .inl (No_lead s0).2)), ((ad0 5), .inl (cA 0, (No_bodies s0).1, .inl (No_bodies s0).2)), ((ad0 6), .inl (cA 0, (No_needed s0).1, .inl (No_needed s0).2)), ((ad0 7), .inl (cA 0, (No_marked s0).1, .inl (No_marked s0).2)), ((ob0 1), .inr (0, [.ref (ad0 8), .ref (ad0 9), .int (Fi_used (No_fields s0)), .ref (ad0 10), .ref (ad0 11), .int (Fi_nextUsed (No_fields s0))])), ((ad0 8), .inl (cA 0, (Fi_features (No_fields s0)).1, .inl (Fi_features (No_fields s0)).2)), ((ad0 9), .inl (cA 0, (Fi_parts (No_fields s0)).1, .inl (Fi_parts (No_fields s0)).2)), ((ad0 10), .inl (cA 0, (Fi_nextFeatures (No_fields s0)).1, .inl (Fi_nextFeatures (No_fields s0)).2)), ((ad0 11), .inl (cA 0, (Fi_nextParts (No_fields s0)).1, .inl (Fi_nextParts (No_fields s0)).2)), ((ob0 2), .inr (1, [.ref (ad0 12), .int (Ld_size (No_reached s0))])), ((ad0 12), .inl (cA 0, (Ld_row (No_reached s0)).1, .inl (Ld_row (No_reached s0)).2))]) F 1 rfl e_a9 b_a9 rfl d_No_vacate_6 ?_
  refine x_aload_n F d_No_vacate_7 0 rfl rfl ?_
  refine x_get F ck_No hin_No 0 1 rfl (by decide) kw_118 rfl rfl d_No_vacate_8 ?_
  refine x_iload_n F d_No_vacate_11 1 rfl rfl ?_
  refine x_iconst (v := (0 : Int32)) F d_No_vacate_12 (by decide) ?_
  replace hm := xm_wr_some hm
  obtain ⟨a10, e_a10, b_a10, hm⟩ := hm
  refine x_iast (x := (No_values s0)) (x' := a10) (ws' := [((ob0 0), .inr (3, [.ref (ad0 0), .ref (ad0 1), .ref (ad0 2), .ref (ad0 3), .ref (ad0 4), .ref (ad0 5), .ref (ad0 6), .ref (ad0 7), .int (No_top s0), .int (No_lowest s0), .int (No_alive s0), .int (No_marks s0), .ref (ob0 1), .ref (ob0 2)])), ((ad0 0), .inl (cA 0, a9.1, .inl a9.2)), ((ad0 1), .inl (cA 0, a10.1, .inl a10.2)), ((ad0 2), .inl (cA 0, (No_starts s0).1, .inl (No_starts s0).2)), ((ad0 3), .inl (cA 0, (No_sizes s0).1, .inl (No_sizes s0).2)), ((ad0 4), .inl (cA 0, (No_lead s0).1, .inl (No_lead s0).2)), ((ad0 5), .inl (cA 0, (No_bodies s0).1, .inl (No_bodies s0).2)), ((ad0 6), .inl (cA 0, (No_needed s0).1, .inl (No_needed s0).2)), ((ad0 7), .inl (cA 0, (No_marked s0).1, .inl (No_marked s0).2)), ((ob0 1), .inr (0, [.ref (ad0 8), .ref (ad0 9), .int (Fi_used (No_fields s0)), .ref (ad0 10), .ref (ad0 11), .int (Fi_nextUsed (No_fields s0))])), ((ad0 8), .inl (cA 0, (Fi_features (No_fields s0)).1, .inl (Fi_features (No_fields s0)).2)), ((ad0 9), .inl (cA 0, (Fi_parts (No_fields s0)).1, .inl (Fi_parts (No_fields s0)).2)), ((ad0 10), .inl (cA 0, (Fi_nextFeatures (No_fields s0)).1, .inl (Fi_nextFeatures (No_fields s0)).2)), ((ad0 11), .inl (cA 0, (Fi_nextParts (No_fields s0)).1, .inl (Fi_nextParts (No_fields s0)).2)), ((ob0 2), .inr (1, [.ref (ad0 12), .int (Ld_size (No_reached s0))])), ((ad0 12), .inl (cA 0, (Ld_row (No_reached s0)).1, .inl (Ld_row (No_reached s0)).2))]) F 2 rfl e_a10 b_a10 rfl d_No_vacate_13 ?_
  refine x_aload_n F d_No_vacate_14 0 rfl rfl ?_
  refine x_get F ck_No hin_No 0 2 rfl (by decide) kw_120 rfl rfl d_No_vacate_15 ?_
  refine x_iload_n F d_No_vacate_18 1 rfl rfl ?_
  refine x_iconst (v := (0 : Int32)) F d_No_vacate_19 (by decide) ?_
  replace hm := xm_wr_some hm
  obtain ⟨a11, e_a11, b_a11, hm⟩ := hm
  refine x_iast (x := (No_starts s0)) (x' := a11) (ws' := [((ob0 0), .inr (3, [.ref (ad0 0), .ref (ad0 1), .ref (ad0 2), .ref (ad0 3), .ref (ad0 4), .ref (ad0 5), .ref (ad0 6), .ref (ad0 7), .int (No_top s0), .int (No_lowest s0), .int (No_alive s0), .int (No_marks s0), .ref (ob0 1), .ref (ob0 2)])), ((ad0 0), .inl (cA 0, a9.1, .inl a9.2)), ((ad0 1), .inl (cA 0, a10.1, .inl a10.2)), ((ad0 2), .inl (cA 0, a11.1, .inl a11.2)), ((ad0 3), .inl (cA 0, (No_sizes s0).1, .inl (No_sizes s0).2)), ((ad0 4), .inl (cA 0, (No_lead s0).1, .inl (No_lead s0).2)), ((ad0 5), .inl (cA 0, (No_bodies s0).1, .inl (No_bodies s0).2)), ((ad0 6), .inl (cA 0, (No_needed s0).1, .inl (No_needed s0).2)), ((ad0 7), .inl (cA 0, (No_marked s0).1, .inl (No_marked s0).2)), ((ob0 1), .inr (0, [.ref (ad0 8), .ref (ad0 9), .int (Fi_used (No_fields s0)), .ref (ad0 10), .ref (ad0 11), .int (Fi_nextUsed (No_fields s0))])), ((ad0 8), .inl (cA 0, (Fi_features (No_fields s0)).1, .inl (Fi_features (No_fields s0)).2)), ((ad0 9), .inl (cA 0, (Fi_parts (No_fields s0)).1, .inl (Fi_parts (No_fields s0)).2)), ((ad0 10), .inl (cA 0, (Fi_nextFeatures (No_fields s0)).1, .inl (Fi_nextFeatures (No_fields s0)).2)), ((ad0 11), .inl (cA 0, (Fi_nextParts (No_fields s0)).1, .inl (Fi_nextParts (No_fields s0)).2)), ((ob0 2), .inr (1, [.ref (ad0 12), .int (Ld_size (No_reached s0))])), ((ad0 12), .inl (cA 0, (Ld_row (No_reached s0)).1, .inl (Ld_row (No_reached s0)).2))]) F 3 rfl e_a11 b_a11 rfl d_No_vacate_20 ?_
  refine x_aload_n F d_No_vacate_21 0 rfl rfl ?_
  refine x_get F ck_No hin_No 0 3 rfl (by decide) kw_123 rfl rfl d_No_vacate_22 ?_
  refine x_iload_n F d_No_vacate_25 1 rfl rfl ?_
  refine x_iconst (v := (0 : Int32)) F d_No_vacate_26 (by decide) ?_
  replace hm := xm_wr_some hm
  obtain ⟨a12, e_a12, b_a12, hm⟩ := hm
  refine x_iast (x := (No_sizes s0)) (x' := a12) (ws' := [((ob0 0), .inr (3, [.ref (ad0 0), .ref (ad0 1), .ref (ad0 2), .ref (ad0 3), .ref (ad0 4), .ref (ad0 5), .ref (ad0 6), .ref (ad0 7), .int (No_top s0), .int (No_lowest s0), .int (No_alive s0), .int (No_marks s0), .ref (ob0 1), .ref (ob0 2)])), ((ad0 0), .inl (cA 0, a9.1, .inl a9.2)), ((ad0 1), .inl (cA 0, a10.1, .inl a10.2)), ((ad0 2), .inl (cA 0, a11.1, .inl a11.2)), ((ad0 3), .inl (cA 0, a12.1, .inl a12.2)), ((ad0 4), .inl (cA 0, (No_lead s0).1, .inl (No_lead s0).2)), ((ad0 5), .inl (cA 0, (No_bodies s0).1, .inl (No_bodies s0).2)), ((ad0 6), .inl (cA 0, (No_needed s0).1, .inl (No_needed s0).2)), ((ad0 7), .inl (cA 0, (No_marked s0).1, .inl (No_marked s0).2)), ((ob0 1), .inr (0, [.ref (ad0 8), .ref (ad0 9), .int (Fi_used (No_fields s0)), .ref (ad0 10), .ref (ad0 11), .int (Fi_nextUsed (No_fields s0))])), ((ad0 8), .inl (cA 0, (Fi_features (No_fields s0)).1, .inl (Fi_features (No_fields s0)).2)), ((ad0 9), .inl (cA 0, (Fi_parts (No_fields s0)).1, .inl (Fi_parts (No_fields s0)).2)), ((ad0 10), .inl (cA 0, (Fi_nextFeatures (No_fields s0)).1, .inl (Fi_nextFeatures (No_fields s0)).2)), ((ad0 11), .inl (cA 0, (Fi_nextParts (No_fields s0)).1, .inl (Fi_nextParts (No_fields s0)).2)), ((ob0 2), .inr (1, [.ref (ad0 12), .int (Ld_size (No_reached s0))])), ((ad0 12), .inl (cA 0, (Ld_row (No_reached s0)).1, .inl (Ld_row (No_reached s0)).2))]) F 4 rfl e_a12 b_a12 rfl d_No_vacate_27 ?_
  refine x_aload_n F d_No_vacate_28 0 rfl rfl ?_
  refine x_get F ck_No hin_No 0 4 rfl (by decide) kw_127 rfl rfl d_No_vacate_29 ?_
  refine x_iload_n F d_No_vacate_32 1 rfl rfl ?_
  refine x_iload_n F d_No_vacate_33 1 rfl rfl ?_
  replace hm := xm_wr_some hm
  obtain ⟨a13, e_a13, b_a13, hm⟩ := hm
  refine x_iast (x := (No_lead s0)) (x' := a13) (ws' := [((ob0 0), .inr (3, [.ref (ad0 0), .ref (ad0 1), .ref (ad0 2), .ref (ad0 3), .ref (ad0 4), .ref (ad0 5), .ref (ad0 6), .ref (ad0 7), .int (No_top s0), .int (No_lowest s0), .int (No_alive s0), .int (No_marks s0), .ref (ob0 1), .ref (ob0 2)])), ((ad0 0), .inl (cA 0, a9.1, .inl a9.2)), ((ad0 1), .inl (cA 0, a10.1, .inl a10.2)), ((ad0 2), .inl (cA 0, a11.1, .inl a11.2)), ((ad0 3), .inl (cA 0, a12.1, .inl a12.2)), ((ad0 4), .inl (cA 0, a13.1, .inl a13.2)), ((ad0 5), .inl (cA 0, (No_bodies s0).1, .inl (No_bodies s0).2)), ((ad0 6), .inl (cA 0, (No_needed s0).1, .inl (No_needed s0).2)), ((ad0 7), .inl (cA 0, (No_marked s0).1, .inl (No_marked s0).2)), ((ob0 1), .inr (0, [.ref (ad0 8), .ref (ad0 9), .int (Fi_used (No_fields s0)), .ref (ad0 10), .ref (ad0 11), .int (Fi_nextUsed (No_fields s0))])), ((ad0 8), .inl (cA 0, (Fi_features (No_fields s0)).1, .inl (Fi_features (No_fields s0)).2)), ((ad0 9), .inl (cA 0, (Fi_parts (No_fields s0)).1, .inl (Fi_parts (No_fields s0)).2)), ((ad0 10), .inl (cA 0, (Fi_nextFeatures (No_fields s0)).1, .inl (Fi_nextFeatures (No_fields s0)).2)), ((ad0 11), .inl (cA 0, (Fi_nextParts (No_fields s0)).1, .inl (Fi_nextParts (No_fields s0)).2)), ((ob0 2), .inr (1, [.ref (ad0 12), .int (Ld_size (No_reached s0))])), ((ad0 12), .inl (cA 0, (Ld_row (No_reached s0)).1, .inl (Ld_row (No_reached s0)).2))]) F 5 rfl e_a13 b_a13 rfl d_No_vacate_34 ?_
  refine x_aload_n F d_No_vacate_35 0 rfl rfl ?_
  refine x_get F ck_No hin_No 0 5 rfl (by decide) kw_131 rfl rfl d_No_vacate_36 ?_
  refine x_iload_n F d_No_vacate_39 1 rfl rfl ?_
  refine x_iload_n F d_No_vacate_40 1 rfl rfl ?_
  replace hm := xm_wr_some hm
  obtain ⟨a14, e_a14, b_a14, hm⟩ := hm
  refine x_iast (x := (No_bodies s0)) (x' := a14) (ws' := [((ob0 0), .inr (3, [.ref (ad0 0), .ref (ad0 1), .ref (ad0 2), .ref (ad0 3), .ref (ad0 4), .ref (ad0 5), .ref (ad0 6), .ref (ad0 7), .int (No_top s0), .int (No_lowest s0), .int (No_alive s0), .int (No_marks s0), .ref (ob0 1), .ref (ob0 2)])), ((ad0 0), .inl (cA 0, a9.1, .inl a9.2)), ((ad0 1), .inl (cA 0, a10.1, .inl a10.2)), ((ad0 2), .inl (cA 0, a11.1, .inl a11.2)), ((ad0 3), .inl (cA 0, a12.1, .inl a12.2)), ((ad0 4), .inl (cA 0, a13.1, .inl a13.2)), ((ad0 5), .inl (cA 0, a14.1, .inl a14.2)), ((ad0 6), .inl (cA 0, (No_needed s0).1, .inl (No_needed s0).2)), ((ad0 7), .inl (cA 0, (No_marked s0).1, .inl (No_marked s0).2)), ((ob0 1), .inr (0, [.ref (ad0 8), .ref (ad0 9), .int (Fi_used (No_fields s0)), .ref (ad0 10), .ref (ad0 11), .int (Fi_nextUsed (No_fields s0))])), ((ad0 8), .inl (cA 0, (Fi_features (No_fields s0)).1, .inl (Fi_features (No_fields s0)).2)), ((ad0 9), .inl (cA 0, (Fi_parts (No_fields s0)).1, .inl (Fi_parts (No_fields s0)).2)), ((ad0 10), .inl (cA 0, (Fi_nextFeatures (No_fields s0)).1, .inl (Fi_nextFeatures (No_fields s0)).2)), ((ad0 11), .inl (cA 0, (Fi_nextParts (No_fields s0)).1, .inl (Fi_nextParts (No_fields s0)).2)), ((ob0 2), .inr (1, [.ref (ad0 12), .int (Ld_size (No_reached s0))])), ((ad0 12), .inl (cA 0, (Ld_row (No_reached s0)).1, .inl (Ld_row (No_reached s0)).2))]) F 6 rfl e_a14 b_a14 rfl d_No_vacate_41 ?_
  refine x_aload_n F d_No_vacate_42 0 rfl rfl ?_
  refine x_get F ck_No hin_No 0 6 rfl (by decide) kw_135 rfl rfl d_No_vacate_43 ?_
  refine x_iload_n F d_No_vacate_46 1 rfl rfl ?_
  refine x_iconst (v := (0 : Int32)) F d_No_vacate_47 (by decide) ?_
  replace hm := xm_wr_some hm
  obtain ⟨a15, e_a15, b_a15, hm⟩ := hm
  refine x_iast (x := (No_needed s0)) (x' := a15) (ws' := [((ob0 0), .inr (3, [.ref (ad0 0), .ref (ad0 1), .ref (ad0 2), .ref (ad0 3), .ref (ad0 4), .ref (ad0 5), .ref (ad0 6), .ref (ad0 7), .int (No_top s0), .int (No_lowest s0), .int (No_alive s0), .int (No_marks s0), .ref (ob0 1), .ref (ob0 2)])), ((ad0 0), .inl (cA 0, a9.1, .inl a9.2)), ((ad0 1), .inl (cA 0, a10.1, .inl a10.2)), ((ad0 2), .inl (cA 0, a11.1, .inl a11.2)), ((ad0 3), .inl (cA 0, a12.1, .inl a12.2)), ((ad0 4), .inl (cA 0, a13.1, .inl a13.2)), ((ad0 5), .inl (cA 0, a14.1, .inl a14.2)), ((ad0 6), .inl (cA 0, a15.1, .inl a15.2)), ((ad0 7), .inl (cA 0, (No_marked s0).1, .inl (No_marked s0).2)), ((ob0 1), .inr (0, [.ref (ad0 8), .ref (ad0 9), .int (Fi_used (No_fields s0)), .ref (ad0 10), .ref (ad0 11), .int (Fi_nextUsed (No_fields s0))])), ((ad0 8), .inl (cA 0, (Fi_features (No_fields s0)).1, .inl (Fi_features (No_fields s0)).2)), ((ad0 9), .inl (cA 0, (Fi_parts (No_fields s0)).1, .inl (Fi_parts (No_fields s0)).2)), ((ad0 10), .inl (cA 0, (Fi_nextFeatures (No_fields s0)).1, .inl (Fi_nextFeatures (No_fields s0)).2)), ((ad0 11), .inl (cA 0, (Fi_nextParts (No_fields s0)).1, .inl (Fi_nextParts (No_fields s0)).2)), ((ob0 2), .inr (1, [.ref (ad0 12), .int (Ld_size (No_reached s0))])), ((ad0 12), .inl (cA 0, (Ld_row (No_reached s0)).1, .inl (Ld_row (No_reached s0)).2))]) F 7 rfl e_a15 b_a15 rfl d_No_vacate_48 ?_
  refine x_aload_n F d_No_vacate_49 0 rfl rfl ?_
  refine x_get F ck_No hin_No 0 7 rfl (by decide) kw_138 rfl rfl d_No_vacate_50 ?_
  refine x_iload_n F d_No_vacate_53 1 rfl rfl ?_
  refine x_iconst (v := (0 : Int32)) F d_No_vacate_54 (by decide) ?_
  replace hm := xm_wr_some hm
  obtain ⟨a16, e_a16, b_a16, hm⟩ := hm
  refine x_iast (x := (No_marked s0)) (x' := a16) (ws' := [((ob0 0), .inr (3, [.ref (ad0 0), .ref (ad0 1), .ref (ad0 2), .ref (ad0 3), .ref (ad0 4), .ref (ad0 5), .ref (ad0 6), .ref (ad0 7), .int (No_top s0), .int (No_lowest s0), .int (No_alive s0), .int (No_marks s0), .ref (ob0 1), .ref (ob0 2)])), ((ad0 0), .inl (cA 0, a9.1, .inl a9.2)), ((ad0 1), .inl (cA 0, a10.1, .inl a10.2)), ((ad0 2), .inl (cA 0, a11.1, .inl a11.2)), ((ad0 3), .inl (cA 0, a12.1, .inl a12.2)), ((ad0 4), .inl (cA 0, a13.1, .inl a13.2)), ((ad0 5), .inl (cA 0, a14.1, .inl a14.2)), ((ad0 6), .inl (cA 0, a15.1, .inl a15.2)), ((ad0 7), .inl (cA 0, a16.1, .inl a16.2)), ((ob0 1), .inr (0, [.ref (ad0 8), .ref (ad0 9), .int (Fi_used (No_fields s0)), .ref (ad0 10), .ref (ad0 11), .int (Fi_nextUsed (No_fields s0))])), ((ad0 8), .inl (cA 0, (Fi_features (No_fields s0)).1, .inl (Fi_features (No_fields s0)).2)), ((ad0 9), .inl (cA 0, (Fi_parts (No_fields s0)).1, .inl (Fi_parts (No_fields s0)).2)), ((ad0 10), .inl (cA 0, (Fi_nextFeatures (No_fields s0)).1, .inl (Fi_nextFeatures (No_fields s0)).2)), ((ad0 11), .inl (cA 0, (Fi_nextParts (No_fields s0)).1, .inl (Fi_nextParts (No_fields s0)).2)), ((ob0 2), .inr (1, [.ref (ad0 12), .int (Ld_size (No_reached s0))])), ((ad0 12), .inl (cA 0, (Ld_row (No_reached s0)).1, .inl (Ld_row (No_reached s0)).2))]) F 8 rfl e_a16 b_a16 rfl d_No_vacate_55 ?_
  replace hm := xm_p_some hm
  obtain ⟨eo, c_o, d_o⟩ := hm
  subst eo
  refine x_sub [0, 1, 2, 3, 4, 5, 6, 7, 8, 9, 10, 11, 12, 13, 14, 15] (by decide) ?_ (xe_v E ad0 (by omega) (by omega)  d_No_vacate_56)
  rfl

noncomputable def m_No_settleAt (n : Nat) (s0 : S_No) (p0 : Int32) (p1 : Int32) (p2 : Int32) : MO (Int32 × S_No) := (xm_b (m_No_makeRoom n s0 (p0 + (1 : Int32))) (fun o18 => (xm_b (m_No_dropMarks n o18) (fun o23 => (xm_b (m_No_vacate n o23 p0) (fun o28 => (xm_wr (No_kinds o28) p0 p1 (fun a33 => (xm_wr (No_values o28) p0 p2 (fun a34 => (xm_p (p0, (a33, a34, (No_starts o28), (No_sizes o28), (No_lead o28), (No_bodies o28), (No_needed o28), (No_marked o28), (if (No_top o28) < (p0 + (1 : Int32)) then (p0 + (1 : Int32)) else (No_top o28)), (p0 + (1 : Int32)), ((No_alive o28) + (1 : Int32)), (No_marks o28), (No_fields o28), (No_reached o28))))))))))))))
set_option maxHeartbeats 4000000 in
set_option maxRecDepth 100000 in
theorem c_No_settleAt (l : Launch) (D : va_G) (cA : Nat → ClassId) (n : Nat) (ob0 ad0 : Nat → Nat) (s0 : S_No) (p0 : Int32) (p1 : Int32) (p2 : Int32) (out : Int32 × S_No) (k : KC) (hm : m_No_settleAt n s0 p0 p1 p2 = some (out, k)) : XM l D cA y_No_settleAt b_No_settleAt 4 (some FieldType.int) 4 128 [.ref (ob0 0), .int p0, .int p1, .int p2] ((w_No cA ob0 ad0  s0)) k (fun _ => some (.int (out.1))) (fun ad => (w_No cA ob0 ad  (out.2))) := by
  refine x_met (cc := b_No_settleAt) (nL := 4) (ret := (some FieldType.int)) R_No (by decide) (Nat.le_of_ble_eq_true rfl) rfl (fun X F I E => ?_)
  unfold m_No_settleAt at hm
  refine x_nf2 (ws' := [((ob0 0), .inr (3, [.ref (ad0 0), .ref (ad0 1), .ref (ad0 2), .ref (ad0 3), .ref (ad0 4), .ref (ad0 5), .ref (ad0 6), .ref (ad0 7), .int (No_top s0), .int (No_lowest s0), .int (No_alive s0), .int (No_marks s0), .ref (ob0 1), .ref (ob0 2)])), ((ad0 0), .inl (cA 0, (No_kinds s0).1, .inl (No_kinds s0).2)), ((ad0 1), .inl (cA 0, (No_values s0).1, .inl (No_values s0).2)), ((ad0 2), .inl (cA 0, (No_starts s0).1, .inl (No_starts s0).2)), ((ad0 3), .inl (cA 0, (No_sizes s0).1, .inl (No_sizes s0).2)), ((ad0 4), .inl (cA 0, (No_lead s0).1, .inl (No_lead s0).2)), ((ad0 5), .inl (cA 0, (No_bodies s0).1, .inl (No_bodies s0).2)), ((ad0 6), .inl (cA 0, (No_needed s0).1, .inl (No_needed s0).2)), ((ad0 7), .inl (cA 0, (No_marked s0).1, .inl (No_marked s0).2)), ((ob0 1), .inr (0, [.ref (ad0 8), .ref (ad0 9), .int (Fi_used (No_fields s0)), .ref (ad0 10), .ref (ad0 11), .int (Fi_nextUsed (No_fields s0))])), ((ad0 8), .inl (cA 0, (Fi_features (No_fields s0)).1, .inl (Fi_features (No_fields s0)).2)), ((ad0 9), .inl (cA 0, (Fi_parts (No_fields s0)).1, .inl (Fi_parts (No_fields s0)).2)), ((ad0 10), .inl (cA 0, (Fi_nextFeatures (No_fields s0)).1, .inl (Fi_nextFeatures (No_fields s0)).2)), ((ad0 11), .inl (cA 0, (Fi_nextParts (No_fields s0)).1, .inl (Fi_nextParts (No_fields s0)).2)), ((ob0 2), .inr (1, [.ref (ad0 12), .int (Ld_size (No_reached s0))])), ((ad0 12), .inl (cA 0, (Ld_row (No_reached s0)).1, .inl (Ld_row (No_reached s0)).2))]) (lv' := [(0, .ref (ob0 0)), (1, .int p0), (2, .int p1), (3, .int p2)]) rfl rfl ?_
  refine x_aload_n F d_No_settleAt_0 0 rfl rfl ?_
  refine x_iload_n F d_No_settleAt_1 1 rfl rfl ?_
  refine x_iconst (v := (1 : Int32)) F d_No_settleAt_2 (by decide) ?_
  refine x_iadd F d_No_settleAt_3 ?_
  replace hm := xm_b_some hm
  obtain ⟨o18, k19, k20, h21, hm, c_o18, d_o18⟩ := hm
  refine x_callV (n := 1) (C := R_No) (wr := []) F (c_No_makeRoom l D cA n ob0 ad0 s0 (p0 + (1 : Int32)) o18 k19 h21) kw_310 kw_307 kw_309 kw_2 kw_40 ⟨rfl, by decide, by decide, by decide +kernel⟩ rfl (by decide) (by decide) (ci := 3) rfl rfl 0 rfl [0, 1, 2, 3, 4, 5, 6, 7, 8, 9, 10, 11, 12, 13, 14, 15] [] rfl rfl (by decide) (by decide) (by decide) rfl (Nat.le_of_ble_eq_true rfl) (by omega) (by omega) d_No_settleAt_4 (fun ad22 => ?_)
  refine x_nf (ws' := [((ob0 0), .inr (3, [.ref (ad22 0), .ref (ad22 1), .ref (ad22 2), .ref (ad22 3), .ref (ad22 4), .ref (ad22 5), .ref (ad22 6), .ref (ad22 7), .int (No_top o18), .int (No_lowest o18), .int (No_alive o18), .int (No_marks o18), .ref (ob0 1), .ref (ob0 2)])), ((ad22 0), .inl (cA 0, (No_kinds o18).1, .inl (No_kinds o18).2)), ((ad22 1), .inl (cA 0, (No_values o18).1, .inl (No_values o18).2)), ((ad22 2), .inl (cA 0, (No_starts o18).1, .inl (No_starts o18).2)), ((ad22 3), .inl (cA 0, (No_sizes o18).1, .inl (No_sizes o18).2)), ((ad22 4), .inl (cA 0, (No_lead o18).1, .inl (No_lead o18).2)), ((ad22 5), .inl (cA 0, (No_bodies o18).1, .inl (No_bodies o18).2)), ((ad22 6), .inl (cA 0, (No_needed o18).1, .inl (No_needed o18).2)), ((ad22 7), .inl (cA 0, (No_marked o18).1, .inl (No_marked o18).2)), ((ob0 1), .inr (0, [.ref (ad22 8), .ref (ad22 9), .int (Fi_used (No_fields o18)), .ref (ad22 10), .ref (ad22 11), .int (Fi_nextUsed (No_fields o18))])), ((ad22 8), .inl (cA 0, (Fi_features (No_fields o18)).1, .inl (Fi_features (No_fields o18)).2)), ((ad22 9), .inl (cA 0, (Fi_parts (No_fields o18)).1, .inl (Fi_parts (No_fields o18)).2)), ((ad22 10), .inl (cA 0, (Fi_nextFeatures (No_fields o18)).1, .inl (Fi_nextFeatures (No_fields o18)).2)), ((ad22 11), .inl (cA 0, (Fi_nextParts (No_fields o18)).1, .inl (Fi_nextParts (No_fields o18)).2)), ((ob0 2), .inr (1, [.ref (ad22 12), .int (Ld_size (No_reached o18))])), ((ad22 12), .inl (cA 0, (Ld_row (No_reached o18)).1, .inl (Ld_row (No_reached o18)).2))]) (st' := []) rfl rfl ?_
  refine x_aload_n F d_No_settleAt_7 0 rfl rfl ?_
  replace hm := xm_b_some hm
  obtain ⟨o23, k24, k25, h26, hm, c_o23, d_o23⟩ := hm
  refine x_callV (n := 0) (C := R_No) (wr := []) F (c_No_dropMarks l D cA n ob0 ad22 o18  o23 k24 h26) kw_336 kw_333 kw_334 kw_335 kw_40 ⟨rfl, by decide, by decide, by decide +kernel⟩ rfl (by decide) (by decide) (ci := 3) rfl rfl 0 rfl [0, 1, 2, 3, 4, 5, 6, 7, 8, 9, 10, 11, 12, 13, 14, 15] [] rfl rfl (by decide) (by decide) (by decide) rfl (Nat.le_of_ble_eq_true rfl) (by omega) (by omega) d_No_settleAt_8 (fun ad27 => ?_)
  refine x_nf (ws' := [((ob0 0), .inr (3, [.ref (ad27 0), .ref (ad27 1), .ref (ad27 2), .ref (ad27 3), .ref (ad27 4), .ref (ad27 5), .ref (ad27 6), .ref (ad27 7), .int (No_top o23), .int (No_lowest o23), .int (No_alive o23), .int (No_marks o23), .ref (ob0 1), .ref (ob0 2)])), ((ad27 0), .inl (cA 0, (No_kinds o23).1, .inl (No_kinds o23).2)), ((ad27 1), .inl (cA 0, (No_values o23).1, .inl (No_values o23).2)), ((ad27 2), .inl (cA 0, (No_starts o23).1, .inl (No_starts o23).2)), ((ad27 3), .inl (cA 0, (No_sizes o23).1, .inl (No_sizes o23).2)), ((ad27 4), .inl (cA 0, (No_lead o23).1, .inl (No_lead o23).2)), ((ad27 5), .inl (cA 0, (No_bodies o23).1, .inl (No_bodies o23).2)), ((ad27 6), .inl (cA 0, (No_needed o23).1, .inl (No_needed o23).2)), ((ad27 7), .inl (cA 0, (No_marked o23).1, .inl (No_marked o23).2)), ((ob0 1), .inr (0, [.ref (ad27 8), .ref (ad27 9), .int (Fi_used (No_fields o23)), .ref (ad27 10), .ref (ad27 11), .int (Fi_nextUsed (No_fields o23))])), ((ad27 8), .inl (cA 0, (Fi_features (No_fields o23)).1, .inl (Fi_features (No_fields o23)).2)), ((ad27 9), .inl (cA 0, (Fi_parts (No_fields o23)).1, .inl (Fi_parts (No_fields o23)).2)), ((ad27 10), .inl (cA 0, (Fi_nextFeatures (No_fields o23)).1, .inl (Fi_nextFeatures (No_fields o23)).2)), ((ad27 11), .inl (cA 0, (Fi_nextParts (No_fields o23)).1, .inl (Fi_nextParts (No_fields o23)).2)), ((ob0 2), .inr (1, [.ref (ad27 12), .int (Ld_size (No_reached o23))])), ((ad27 12), .inl (cA 0, (Ld_row (No_reached o23)).1, .inl (Ld_row (No_reached o23)).2))]) (st' := []) rfl rfl ?_
  refine x_aload_n F d_No_settleAt_11 0 rfl rfl ?_
  refine x_iload_n F d_No_settleAt_12 1 rfl rfl ?_
  replace hm := xm_b_some hm
  obtain ⟨o28, k29, k30, h31, hm, c_o28, d_o28⟩ := hm
  refine x_callV (n := 1) (C := R_No) (wr := []) F (c_No_vacate l D cA n ob0 ad27 o23 p0 o28 k29 h31) kw_343 kw_340 kw_342 kw_3 kw_40 ⟨rfl, by decide, by decide, by decide +kernel⟩ rfl (by decide) (by decide) (ci := 3) rfl rfl 0 rfl [0, 1, 2, 3, 4, 5, 6, 7, 8, 9, 10, 11, 12, 13, 14, 15] [] rfl rfl (by decide) (by decide) (by decide) rfl (Nat.le_of_ble_eq_true rfl) (by omega) (by omega) d_No_settleAt_13 (fun ad32 => ?_)
  refine x_nf (ws' := [((ob0 0), .inr (3, [.ref (ad32 0), .ref (ad32 1), .ref (ad32 2), .ref (ad32 3), .ref (ad32 4), .ref (ad32 5), .ref (ad32 6), .ref (ad32 7), .int (No_top o28), .int (No_lowest o28), .int (No_alive o28), .int (No_marks o28), .ref (ob0 1), .ref (ob0 2)])), ((ad32 0), .inl (cA 0, (No_kinds o28).1, .inl (No_kinds o28).2)), ((ad32 1), .inl (cA 0, (No_values o28).1, .inl (No_values o28).2)), ((ad32 2), .inl (cA 0, (No_starts o28).1, .inl (No_starts o28).2)), ((ad32 3), .inl (cA 0, (No_sizes o28).1, .inl (No_sizes o28).2)), ((ad32 4), .inl (cA 0, (No_lead o28).1, .inl (No_lead o28).2)), ((ad32 5), .inl (cA 0, (No_bodies o28).1, .inl (No_bodies o28).2)), ((ad32 6), .inl (cA 0, (No_needed o28).1, .inl (No_needed o28).2)), ((ad32 7), .inl (cA 0, (No_marked o28).1, .inl (No_marked o28).2)), ((ob0 1), .inr (0, [.ref (ad32 8), .ref (ad32 9), .int (Fi_used (No_fields o28)), .ref (ad32 10), .ref (ad32 11), .int (Fi_nextUsed (No_fields o28))])), ((ad32 8), .inl (cA 0, (Fi_features (No_fields o28)).1, .inl (Fi_features (No_fields o28)).2)), ((ad32 9), .inl (cA 0, (Fi_parts (No_fields o28)).1, .inl (Fi_parts (No_fields o28)).2)), ((ad32 10), .inl (cA 0, (Fi_nextFeatures (No_fields o28)).1, .inl (Fi_nextFeatures (No_fields o28)).2)), ((ad32 11), .inl (cA 0, (Fi_nextParts (No_fields o28)).1, .inl (Fi_nextParts (No_fields o28)).2)), ((ob0 2), .inr (1, [.ref (ad32 12), .int (Ld_size (No_reached o28))])), ((ad32 12), .inl (cA 0, (Ld_row (No_reached o28)).1, .inl (Ld_row (No_reached o28)).2))]) (st' := []) rfl rfl ?_
  refine x_aload_n F d_No_settleAt_16 0 rfl rfl ?_
  refine x_get F ck_No hin_No 0 0 rfl (by decide) kw_114 rfl rfl d_No_settleAt_17 ?_
  refine x_iload_n F d_No_settleAt_20 1 rfl rfl ?_
  refine x_iload_n F d_No_settleAt_21 2 rfl rfl ?_
  replace hm := xm_wr_some hm
  obtain ⟨a33, e_a33, b_a33, hm⟩ := hm
  refine x_iast (x := (No_kinds o28)) (x' := a33) (ws' := [((ob0 0), .inr (3, [.ref (ad32 0), .ref (ad32 1), .ref (ad32 2), .ref (ad32 3), .ref (ad32 4), .ref (ad32 5), .ref (ad32 6), .ref (ad32 7), .int (No_top o28), .int (No_lowest o28), .int (No_alive o28), .int (No_marks o28), .ref (ob0 1), .ref (ob0 2)])), ((ad32 0), .inl (cA 0, a33.1, .inl a33.2)), ((ad32 1), .inl (cA 0, (No_values o28).1, .inl (No_values o28).2)), ((ad32 2), .inl (cA 0, (No_starts o28).1, .inl (No_starts o28).2)), ((ad32 3), .inl (cA 0, (No_sizes o28).1, .inl (No_sizes o28).2)), ((ad32 4), .inl (cA 0, (No_lead o28).1, .inl (No_lead o28).2)), ((ad32 5), .inl (cA 0, (No_bodies o28).1, .inl (No_bodies o28).2)), ((ad32 6), .inl (cA 0, (No_needed o28).1, .inl (No_needed o28).2)), ((ad32 7), .inl (cA 0, (No_marked o28).1, .inl (No_marked o28).2)), ((ob0 1), .inr (0, [.ref (ad32 8), .ref (ad32 9), .int (Fi_used (No_fields o28)), .ref (ad32 10), .ref (ad32 11), .int (Fi_nextUsed (No_fields o28))])), ((ad32 8), .inl (cA 0, (Fi_features (No_fields o28)).1, .inl (Fi_features (No_fields o28)).2)), ((ad32 9), .inl (cA 0, (Fi_parts (No_fields o28)).1, .inl (Fi_parts (No_fields o28)).2)), ((ad32 10), .inl (cA 0, (Fi_nextFeatures (No_fields o28)).1, .inl (Fi_nextFeatures (No_fields o28)).2)), ((ad32 11), .inl (cA 0, (Fi_nextParts (No_fields o28)).1, .inl (Fi_nextParts (No_fields o28)).2)), ((ob0 2), .inr (1, [.ref (ad32 12), .int (Ld_size (No_reached o28))])), ((ad32 12), .inl (cA 0, (Ld_row (No_reached o28)).1, .inl (Ld_row (No_reached o28)).2))]) F 1 rfl e_a33 b_a33 rfl d_No_settleAt_22 ?_
  refine x_aload_n F d_No_settleAt_23 0 rfl rfl ?_
  refine x_get F ck_No hin_No 0 1 rfl (by decide) kw_118 rfl rfl d_No_settleAt_24 ?_
  refine x_iload_n F d_No_settleAt_27 1 rfl rfl ?_
  refine x_iload_n F d_No_settleAt_28 3 rfl rfl ?_
  replace hm := xm_wr_some hm
  obtain ⟨a34, e_a34, b_a34, hm⟩ := hm
  refine x_iast (x := (No_values o28)) (x' := a34) (ws' := [((ob0 0), .inr (3, [.ref (ad32 0), .ref (ad32 1), .ref (ad32 2), .ref (ad32 3), .ref (ad32 4), .ref (ad32 5), .ref (ad32 6), .ref (ad32 7), .int (No_top o28), .int (No_lowest o28), .int (No_alive o28), .int (No_marks o28), .ref (ob0 1), .ref (ob0 2)])), ((ad32 0), .inl (cA 0, a33.1, .inl a33.2)), ((ad32 1), .inl (cA 0, a34.1, .inl a34.2)), ((ad32 2), .inl (cA 0, (No_starts o28).1, .inl (No_starts o28).2)), ((ad32 3), .inl (cA 0, (No_sizes o28).1, .inl (No_sizes o28).2)), ((ad32 4), .inl (cA 0, (No_lead o28).1, .inl (No_lead o28).2)), ((ad32 5), .inl (cA 0, (No_bodies o28).1, .inl (No_bodies o28).2)), ((ad32 6), .inl (cA 0, (No_needed o28).1, .inl (No_needed o28).2)), ((ad32 7), .inl (cA 0, (No_marked o28).1, .inl (No_marked o28).2)), ((ob0 1), .inr (0, [.ref (ad32 8), .ref (ad32 9), .int (Fi_used (No_fields o28)), .ref (ad32 10), .ref (ad32 11), .int (Fi_nextUsed (No_fields o28))])), ((ad32 8), .inl (cA 0, (Fi_features (No_fields o28)).1, .inl (Fi_features (No_fields o28)).2)), ((ad32 9), .inl (cA 0, (Fi_parts (No_fields o28)).1, .inl (Fi_parts (No_fields o28)).2)), ((ad32 10), .inl (cA 0, (Fi_nextFeatures (No_fields o28)).1, .inl (Fi_nextFeatures (No_fields o28)).2)), ((ad32 11), .inl (cA 0, (Fi_nextParts (No_fields o28)).1, .inl (Fi_nextParts (No_fields o28)).2)), ((ob0 2), .inr (1, [.ref (ad32 12), .int (Ld_size (No_reached o28))])), ((ad32 12), .inl (cA 0, (Ld_row (No_reached o28)).1, .inl (Ld_row (No_reached o28)).2))]) F 2 rfl e_a34 b_a34 rfl d_No_settleAt_29 ?_
  refine x_aload_n F d_No_settleAt_30 0 rfl rfl ?_
  refine x_aload_n F d_No_settleAt_31 0 rfl rfl ?_
  refine x_get F ck_No hin_No 0 8 rfl (by decide) kw_139 rfl rfl d_No_settleAt_32 ?_
  refine x_iload_n F d_No_settleAt_35 1 rfl rfl ?_
  refine x_iconst (v := (1 : Int32)) F d_No_settleAt_36 (by decide) ?_
  refine x_iadd F d_No_settleAt_37 ?_
  refine x_max F kt_344_18 kt_315_10 kw_48 kt_316_11 (by decide) (Nat.le_of_ble_eq_true rfl) (by omega) (by omega) d_No_settleAt_38 ?_
  refine x_put (ws' := [((ob0 0), .inr (3, [.ref (ad32 0), .ref (ad32 1), .ref (ad32 2), .ref (ad32 3), .ref (ad32 4), .ref (ad32 5), .ref (ad32 6), .ref (ad32 7), .int (if (No_top o28) < (p0 + (1 : Int32)) then (p0 + (1 : Int32)) else (No_top o28)), .int (No_lowest o28), .int (No_alive o28), .int (No_marks o28), .ref (ob0 1), .ref (ob0 2)])), ((ad32 0), .inl (cA 0, a33.1, .inl a33.2)), ((ad32 1), .inl (cA 0, a34.1, .inl a34.2)), ((ad32 2), .inl (cA 0, (No_starts o28).1, .inl (No_starts o28).2)), ((ad32 3), .inl (cA 0, (No_sizes o28).1, .inl (No_sizes o28).2)), ((ad32 4), .inl (cA 0, (No_lead o28).1, .inl (No_lead o28).2)), ((ad32 5), .inl (cA 0, (No_bodies o28).1, .inl (No_bodies o28).2)), ((ad32 6), .inl (cA 0, (No_needed o28).1, .inl (No_needed o28).2)), ((ad32 7), .inl (cA 0, (No_marked o28).1, .inl (No_marked o28).2)), ((ob0 1), .inr (0, [.ref (ad32 8), .ref (ad32 9), .int (Fi_used (No_fields o28)), .ref (ad32 10), .ref (ad32 11), .int (Fi_nextUsed (No_fields o28))])), ((ad32 8), .inl (cA 0, (Fi_features (No_fields o28)).1, .inl (Fi_features (No_fields o28)).2)), ((ad32 9), .inl (cA 0, (Fi_parts (No_fields o28)).1, .inl (Fi_parts (No_fields o28)).2)), ((ad32 10), .inl (cA 0, (Fi_nextFeatures (No_fields o28)).1, .inl (Fi_nextFeatures (No_fields o28)).2)), ((ad32 11), .inl (cA 0, (Fi_nextParts (No_fields o28)).1, .inl (Fi_nextParts (No_fields o28)).2)), ((ob0 2), .inr (1, [.ref (ad32 12), .int (Ld_size (No_reached o28))])), ((ad32 12), .inl (cA 0, (Ld_row (No_reached o28)).1, .inl (Ld_row (No_reached o28)).2))]) F ck_No hin_No 0 8 rfl (by decide) kw_139 rfl rfl rfl rfl (Nat.le_of_ble_eq_true rfl) rfl d_No_settleAt_41 ?_
  refine x_aload_n F d_No_settleAt_44 0 rfl rfl ?_
  refine x_iload_n F d_No_settleAt_45 1 rfl rfl ?_
  refine x_iconst (v := (1 : Int32)) F d_No_settleAt_46 (by decide) ?_
  refine x_iadd F d_No_settleAt_47 ?_
  refine x_put (ws' := [((ob0 0), .inr (3, [.ref (ad32 0), .ref (ad32 1), .ref (ad32 2), .ref (ad32 3), .ref (ad32 4), .ref (ad32 5), .ref (ad32 6), .ref (ad32 7), .int (if (No_top o28) < (p0 + (1 : Int32)) then (p0 + (1 : Int32)) else (No_top o28)), .int (p0 + (1 : Int32)), .int (No_alive o28), .int (No_marks o28), .ref (ob0 1), .ref (ob0 2)])), ((ad32 0), .inl (cA 0, a33.1, .inl a33.2)), ((ad32 1), .inl (cA 0, a34.1, .inl a34.2)), ((ad32 2), .inl (cA 0, (No_starts o28).1, .inl (No_starts o28).2)), ((ad32 3), .inl (cA 0, (No_sizes o28).1, .inl (No_sizes o28).2)), ((ad32 4), .inl (cA 0, (No_lead o28).1, .inl (No_lead o28).2)), ((ad32 5), .inl (cA 0, (No_bodies o28).1, .inl (No_bodies o28).2)), ((ad32 6), .inl (cA 0, (No_needed o28).1, .inl (No_needed o28).2)), ((ad32 7), .inl (cA 0, (No_marked o28).1, .inl (No_marked o28).2)), ((ob0 1), .inr (0, [.ref (ad32 8), .ref (ad32 9), .int (Fi_used (No_fields o28)), .ref (ad32 10), .ref (ad32 11), .int (Fi_nextUsed (No_fields o28))])), ((ad32 8), .inl (cA 0, (Fi_features (No_fields o28)).1, .inl (Fi_features (No_fields o28)).2)), ((ad32 9), .inl (cA 0, (Fi_parts (No_fields o28)).1, .inl (Fi_parts (No_fields o28)).2)), ((ad32 10), .inl (cA 0, (Fi_nextFeatures (No_fields o28)).1, .inl (Fi_nextFeatures (No_fields o28)).2)), ((ad32 11), .inl (cA 0, (Fi_nextParts (No_fields o28)).1, .inl (Fi_nextParts (No_fields o28)).2)), ((ob0 2), .inr (1, [.ref (ad32 12), .int (Ld_size (No_reached o28))])), ((ad32 12), .inl (cA 0, (Ld_row (No_reached o28)).1, .inl (Ld_row (No_reached o28)).2))]) F ck_No hin_No 0 9 rfl (by decide) kw_142 rfl rfl rfl rfl (Nat.le_of_ble_eq_true rfl) rfl d_No_settleAt_48 ?_
  refine x_aload_n F d_No_settleAt_51 0 rfl rfl ?_
  refine x_dup F d_No_settleAt_52 rfl ?_
  refine x_get F ck_No hin_No 0 10 rfl (by decide) kw_143 rfl rfl d_No_settleAt_53 ?_
  refine x_iconst (v := (1 : Int32)) F d_No_settleAt_56 (by decide) ?_
  refine x_iadd F d_No_settleAt_57 ?_
  refine x_put (ws' := [((ob0 0), .inr (3, [.ref (ad32 0), .ref (ad32 1), .ref (ad32 2), .ref (ad32 3), .ref (ad32 4), .ref (ad32 5), .ref (ad32 6), .ref (ad32 7), .int (if (No_top o28) < (p0 + (1 : Int32)) then (p0 + (1 : Int32)) else (No_top o28)), .int (p0 + (1 : Int32)), .int ((No_alive o28) + (1 : Int32)), .int (No_marks o28), .ref (ob0 1), .ref (ob0 2)])), ((ad32 0), .inl (cA 0, a33.1, .inl a33.2)), ((ad32 1), .inl (cA 0, a34.1, .inl a34.2)), ((ad32 2), .inl (cA 0, (No_starts o28).1, .inl (No_starts o28).2)), ((ad32 3), .inl (cA 0, (No_sizes o28).1, .inl (No_sizes o28).2)), ((ad32 4), .inl (cA 0, (No_lead o28).1, .inl (No_lead o28).2)), ((ad32 5), .inl (cA 0, (No_bodies o28).1, .inl (No_bodies o28).2)), ((ad32 6), .inl (cA 0, (No_needed o28).1, .inl (No_needed o28).2)), ((ad32 7), .inl (cA 0, (No_marked o28).1, .inl (No_marked o28).2)), ((ob0 1), .inr (0, [.ref (ad32 8), .ref (ad32 9), .int (Fi_used (No_fields o28)), .ref (ad32 10), .ref (ad32 11), .int (Fi_nextUsed (No_fields o28))])), ((ad32 8), .inl (cA 0, (Fi_features (No_fields o28)).1, .inl (Fi_features (No_fields o28)).2)), ((ad32 9), .inl (cA 0, (Fi_parts (No_fields o28)).1, .inl (Fi_parts (No_fields o28)).2)), ((ad32 10), .inl (cA 0, (Fi_nextFeatures (No_fields o28)).1, .inl (Fi_nextFeatures (No_fields o28)).2)), ((ad32 11), .inl (cA 0, (Fi_nextParts (No_fields o28)).1, .inl (Fi_nextParts (No_fields o28)).2)), ((ob0 2), .inr (1, [.ref (ad32 12), .int (Ld_size (No_reached o28))])), ((ad32 12), .inl (cA 0, (Ld_row (No_reached o28)).1, .inl (Ld_row (No_reached o28)).2))]) F ck_No hin_No 0 10 rfl (by decide) kw_143 rfl rfl rfl rfl (Nat.le_of_ble_eq_true rfl) rfl d_No_settleAt_58 ?_
  refine x_iload_n F d_No_settleAt_61 1 rfl rfl ?_
  replace hm := xm_p_some hm
  obtain ⟨eo, c_o, d_o⟩ := hm
  subst eo
  refine x_sub [0, 1, 2, 3, 4, 5, 6, 7, 8, 9, 10, 11, 12, 13, 14, 15] (by decide) ?_ (xe_i E ad32 (by omega) (by omega) rfl (xz_i _) d_No_settleAt_62)
  rfl

noncomputable def m_No_addPlain (n : Nat) (s0 : S_No) (p0 : Int32) (p1 : Int32) : MO (Int32 × S_No) := (if (No_alive s0) < (32768 : Int32) then (xm_b (m_No_lowestFree n s0) (fun o13 => (xm_b (m_No_settleAt n s0 o13 p0 p1) (fun o18 => (xm_p ((o18.1), (o18.2))))))) else (xm_p ((-2 : Int32), s0)))
set_option maxHeartbeats 4000000 in
set_option maxRecDepth 100000 in
theorem c_No_addPlain (l : Launch) (D : va_G) (cA : Nat → ClassId) (n : Nat) (ob0 ad0 : Nat → Nat) (s0 : S_No) (p0 : Int32) (p1 : Int32) (out : Int32 × S_No) (k : KC) (hm : m_No_addPlain n s0 p0 p1 = some (out, k)) : XM l D cA y_No_addPlain b_No_addPlain 3 (some FieldType.int) 5 151 [.ref (ob0 0), .int p0, .int p1] ((w_No cA ob0 ad0  s0)) k (fun _ => some (.int (out.1))) (fun ad => (w_No cA ob0 ad  (out.2))) := by
  refine x_met (cc := b_No_addPlain) (nL := 3) (ret := (some FieldType.int)) R_No (by decide) (Nat.le_of_ble_eq_true rfl) rfl (fun X F I E => ?_)
  unfold m_No_addPlain at hm
  refine x_nf2 (ws' := [((ob0 0), .inr (3, [.ref (ad0 0), .ref (ad0 1), .ref (ad0 2), .ref (ad0 3), .ref (ad0 4), .ref (ad0 5), .ref (ad0 6), .ref (ad0 7), .int (No_top s0), .int (No_lowest s0), .int (No_alive s0), .int (No_marks s0), .ref (ob0 1), .ref (ob0 2)])), ((ad0 0), .inl (cA 0, (No_kinds s0).1, .inl (No_kinds s0).2)), ((ad0 1), .inl (cA 0, (No_values s0).1, .inl (No_values s0).2)), ((ad0 2), .inl (cA 0, (No_starts s0).1, .inl (No_starts s0).2)), ((ad0 3), .inl (cA 0, (No_sizes s0).1, .inl (No_sizes s0).2)), ((ad0 4), .inl (cA 0, (No_lead s0).1, .inl (No_lead s0).2)), ((ad0 5), .inl (cA 0, (No_bodies s0).1, .inl (No_bodies s0).2)), ((ad0 6), .inl (cA 0, (No_needed s0).1, .inl (No_needed s0).2)), ((ad0 7), .inl (cA 0, (No_marked s0).1, .inl (No_marked s0).2)), ((ob0 1), .inr (0, [.ref (ad0 8), .ref (ad0 9), .int (Fi_used (No_fields s0)), .ref (ad0 10), .ref (ad0 11), .int (Fi_nextUsed (No_fields s0))])), ((ad0 8), .inl (cA 0, (Fi_features (No_fields s0)).1, .inl (Fi_features (No_fields s0)).2)), ((ad0 9), .inl (cA 0, (Fi_parts (No_fields s0)).1, .inl (Fi_parts (No_fields s0)).2)), ((ad0 10), .inl (cA 0, (Fi_nextFeatures (No_fields s0)).1, .inl (Fi_nextFeatures (No_fields s0)).2)), ((ad0 11), .inl (cA 0, (Fi_nextParts (No_fields s0)).1, .inl (Fi_nextParts (No_fields s0)).2)), ((ob0 2), .inr (1, [.ref (ad0 12), .int (Ld_size (No_reached s0))])), ((ad0 12), .inl (cA 0, (Ld_row (No_reached s0)).1, .inl (Ld_row (No_reached s0)).2))]) (lv' := [(0, .ref (ob0 0)), (1, .int p0), (2, .int p1)]) rfl rfl ?_
  refine x_aload_n F d_No_addPlain_0 0 rfl rfl ?_
  refine x_get F ck_No hin_No 0 10 rfl (by decide) kw_143 rfl rfl d_No_addPlain_1 ?_
  refine x_ldc (v := (32768 : Int32)) F kw_298 d_No_addPlain_4 ?_
  refine x_icmp_lt F 12 d_No_addPlain_6 (by decide) (fun c12 => ?_) (fun c12 => ?_)
  · replace hm := xm_t hm c12
    refine x_aload_n F d_No_addPlain_12 0 rfl rfl ?_
    refine x_aload_n F d_No_addPlain_13 0 rfl rfl ?_
    replace hm := xm_b_some hm
    obtain ⟨o13, k14, k15, h16, hm, c_o13, d_o13⟩ := hm
    refine x_callV (n := 0) (C := R_No) (wr := []) F (c_No_lowestFree l D cA n ob0 ad0 s0  o13 k14 h16) kw_302 kw_299 kw_301 kw_0 kw_40 ⟨rfl, by decide, by decide, by decide +kernel⟩ rfl (by decide) (by decide) (ci := 3) rfl rfl 0 rfl [0, 1, 2, 3, 4, 5, 6, 7, 8, 9, 10, 11, 12, 13, 14, 15] [] rfl rfl (by decide) (by decide) (by decide) rfl (Nat.le_of_ble_eq_true rfl) (by omega) (by omega) d_No_addPlain_14 (fun ad17 => ?_)
    refine x_nf (ws' := [((ob0 0), .inr (3, [.ref (ad0 0), .ref (ad0 1), .ref (ad0 2), .ref (ad0 3), .ref (ad0 4), .ref (ad0 5), .ref (ad0 6), .ref (ad0 7), .int (No_top s0), .int (No_lowest s0), .int (No_alive s0), .int (No_marks s0), .ref (ob0 1), .ref (ob0 2)])), ((ad0 0), .inl (cA 0, (No_kinds s0).1, .inl (No_kinds s0).2)), ((ad0 1), .inl (cA 0, (No_values s0).1, .inl (No_values s0).2)), ((ad0 2), .inl (cA 0, (No_starts s0).1, .inl (No_starts s0).2)), ((ad0 3), .inl (cA 0, (No_sizes s0).1, .inl (No_sizes s0).2)), ((ad0 4), .inl (cA 0, (No_lead s0).1, .inl (No_lead s0).2)), ((ad0 5), .inl (cA 0, (No_bodies s0).1, .inl (No_bodies s0).2)), ((ad0 6), .inl (cA 0, (No_needed s0).1, .inl (No_needed s0).2)), ((ad0 7), .inl (cA 0, (No_marked s0).1, .inl (No_marked s0).2)), ((ob0 1), .inr (0, [.ref (ad0 8), .ref (ad0 9), .int (Fi_used (No_fields s0)), .ref (ad0 10), .ref (ad0 11), .int (Fi_nextUsed (No_fields s0))])), ((ad0 8), .inl (cA 0, (Fi_features (No_fields s0)).1, .inl (Fi_features (No_fields s0)).2)), ((ad0 9), .inl (cA 0, (Fi_parts (No_fields s0)).1, .inl (Fi_parts (No_fields s0)).2)), ((ad0 10), .inl (cA 0, (Fi_nextFeatures (No_fields s0)).1, .inl (Fi_nextFeatures (No_fields s0)).2)), ((ad0 11), .inl (cA 0, (Fi_nextParts (No_fields s0)).1, .inl (Fi_nextParts (No_fields s0)).2)), ((ob0 2), .inr (1, [.ref (ad0 12), .int (Ld_size (No_reached s0))])), ((ad0 12), .inl (cA 0, (Ld_row (No_reached s0)).1, .inl (Ld_row (No_reached s0)).2))]) (st' := [.int o13, .ref (ob0 0)]) rfl rfl ?_
    refine x_iload_n F d_No_addPlain_17 1 rfl rfl ?_
    refine x_iload_n F d_No_addPlain_18 2 rfl rfl ?_
    replace hm := xm_b_some hm
    obtain ⟨o18, k19, k20, h21, hm, c_o18, d_o18⟩ := hm
    refine x_callV (n := 3) (C := R_No) (wr := []) F (c_No_settleAt l D cA n ob0 ad0 s0 o13 p0 p1 o18 k19 h21) kw_306 kw_303 kw_305 kw_1 kw_40 ⟨rfl, by decide, by decide, by decide +kernel⟩ rfl (by decide) (by decide) (ci := 3) rfl rfl 0 rfl [0, 1, 2, 3, 4, 5, 6, 7, 8, 9, 10, 11, 12, 13, 14, 15] [] rfl rfl (by decide) (by decide) (by decide) rfl (Nat.le_of_ble_eq_true rfl) (by omega) (by omega) d_No_addPlain_19 (fun ad22 => ?_)
    refine x_nf (ws' := [((ob0 0), .inr (3, [.ref (ad22 0), .ref (ad22 1), .ref (ad22 2), .ref (ad22 3), .ref (ad22 4), .ref (ad22 5), .ref (ad22 6), .ref (ad22 7), .int (No_top (o18.2)), .int (No_lowest (o18.2)), .int (No_alive (o18.2)), .int (No_marks (o18.2)), .ref (ob0 1), .ref (ob0 2)])), ((ad22 0), .inl (cA 0, (No_kinds (o18.2)).1, .inl (No_kinds (o18.2)).2)), ((ad22 1), .inl (cA 0, (No_values (o18.2)).1, .inl (No_values (o18.2)).2)), ((ad22 2), .inl (cA 0, (No_starts (o18.2)).1, .inl (No_starts (o18.2)).2)), ((ad22 3), .inl (cA 0, (No_sizes (o18.2)).1, .inl (No_sizes (o18.2)).2)), ((ad22 4), .inl (cA 0, (No_lead (o18.2)).1, .inl (No_lead (o18.2)).2)), ((ad22 5), .inl (cA 0, (No_bodies (o18.2)).1, .inl (No_bodies (o18.2)).2)), ((ad22 6), .inl (cA 0, (No_needed (o18.2)).1, .inl (No_needed (o18.2)).2)), ((ad22 7), .inl (cA 0, (No_marked (o18.2)).1, .inl (No_marked (o18.2)).2)), ((ob0 1), .inr (0, [.ref (ad22 8), .ref (ad22 9), .int (Fi_used (No_fields (o18.2))), .ref (ad22 10), .ref (ad22 11), .int (Fi_nextUsed (No_fields (o18.2)))])), ((ad22 8), .inl (cA 0, (Fi_features (No_fields (o18.2))).1, .inl (Fi_features (No_fields (o18.2))).2)), ((ad22 9), .inl (cA 0, (Fi_parts (No_fields (o18.2))).1, .inl (Fi_parts (No_fields (o18.2))).2)), ((ad22 10), .inl (cA 0, (Fi_nextFeatures (No_fields (o18.2))).1, .inl (Fi_nextFeatures (No_fields (o18.2))).2)), ((ad22 11), .inl (cA 0, (Fi_nextParts (No_fields (o18.2))).1, .inl (Fi_nextParts (No_fields (o18.2))).2)), ((ob0 2), .inr (1, [.ref (ad22 12), .int (Ld_size (No_reached (o18.2)))])), ((ad22 12), .inl (cA 0, (Ld_row (No_reached (o18.2))).1, .inl (Ld_row (No_reached (o18.2))).2))]) (st' := [.int (o18.1)]) rfl rfl ?_
    replace hm := xm_p_some hm
    obtain ⟨eo, c_o, d_o⟩ := hm
    subst eo
    refine x_sub [0, 1, 2, 3, 4, 5, 6, 7, 8, 9, 10, 11, 12, 13, 14, 15] (by decide) ?_ (xe_i E ad22 (by omega) (by omega) rfl (xz_i _) d_No_addPlain_22)
    rfl
  · replace hm := xm_f hm c12
    refine x_bipush (v := (-2 : Int32)) F d_No_addPlain_9 (by decide) ?_
    replace hm := xm_p_some hm
    obtain ⟨eo, c_o, d_o⟩ := hm
    subst eo
    refine x_sub [0, 1, 2, 3, 4, 5, 6, 7, 8, 9, 10, 11, 12, 13, 14, 15] (by decide) ?_ (xe_i E ad0 (by omega) (by omega) rfl (xz_i _) d_No_addPlain_11)
    rfl

noncomputable def m_No_addWithFields (n : Nat) (s0 : S_No) (s1 : S_Pu) (p0 : Int32) (p1 : Int32) : MO (Int32 × S_No × S_Pu) := (if (32768 : Int32) ≤ (No_alive s0) then (xm_p ((-2 : Int32), s0, s1)) else (if ((Fi_used (No_fields s0)) + (Pu_size s1)) ≤ (65536 : Int32) then (xm_b (m_No_lowestFree n s0) (fun o22 => (xm_b (m_No_settleAt n s0 o22 p0 p1) (fun o27 => (xm_wr (No_sizes (o27.2)) (o27.1) (Pu_size s1) (fun a32 => (xm_b (m_Fi_takeIn n (No_fields (o27.2)) s1) (fun o33 => (xm_wr (No_starts (o27.2)) (o27.1) (o33.1) (fun a38 => (xm_p ((o27.1), ((No_kinds (o27.2)), (No_values (o27.2)), a38, a32, (No_lead (o27.2)), (No_bodies (o27.2)), (No_needed (o27.2)), (No_marked (o27.2)), (No_top (o27.2)), (No_lowest (o27.2)), (No_alive (o27.2)), (No_marks (o27.2)), (o33.2), (No_reached (o27.2))), ((Pu_features s1), (Pu_parts s1), (0 : Int32)))))))))))))) else (xm_p ((-2 : Int32), s0, s1))))
set_option maxHeartbeats 4000000 in
set_option maxRecDepth 100000 in
theorem c_No_addWithFields (l : Launch) (D : va_G) (cA : Nat → ClassId) (n : Nat) (ob0 ad0 : Nat → Nat) (s0 : S_No) (ob1 ad1 : Nat → Nat) (s1 : S_Pu) (p0 : Int32) (p1 : Int32) (out : Int32 × S_No × S_Pu) (k : KC) (hm : m_No_addWithFields n s0 s1 p0 p1 = some (out, k)) : XM l D cA y_No_addWithFields b_No_addWithFields 5 (some FieldType.int) 5 151 [.ref (ob0 0), .int p0, .int p1, .ref (ob1 0)] ((w_No cA ob0 ad0  s0) ++ (w_Pu cA ob1 ad1  s1)) k (fun _ => some (.int (out.1))) (fun ad => (w_No cA ob0 ad  (out.2.1)) ++ (w_Pu cA ob1 (fun i => ad (i + 13))  (out.2.2))) := by
  refine x_met (cc := b_No_addWithFields) (nL := 5) (ret := (some FieldType.int)) R_No (by decide) (Nat.le_of_ble_eq_true rfl) rfl (fun X F I E => ?_)
  unfold m_No_addWithFields at hm
  refine x_nf2 (ws' := [((ob0 0), .inr (3, [.ref (ad0 0), .ref (ad0 1), .ref (ad0 2), .ref (ad0 3), .ref (ad0 4), .ref (ad0 5), .ref (ad0 6), .ref (ad0 7), .int (No_top s0), .int (No_lowest s0), .int (No_alive s0), .int (No_marks s0), .ref (ob0 1), .ref (ob0 2)])), ((ad0 0), .inl (cA 0, (No_kinds s0).1, .inl (No_kinds s0).2)), ((ad0 1), .inl (cA 0, (No_values s0).1, .inl (No_values s0).2)), ((ad0 2), .inl (cA 0, (No_starts s0).1, .inl (No_starts s0).2)), ((ad0 3), .inl (cA 0, (No_sizes s0).1, .inl (No_sizes s0).2)), ((ad0 4), .inl (cA 0, (No_lead s0).1, .inl (No_lead s0).2)), ((ad0 5), .inl (cA 0, (No_bodies s0).1, .inl (No_bodies s0).2)), ((ad0 6), .inl (cA 0, (No_needed s0).1, .inl (No_needed s0).2)), ((ad0 7), .inl (cA 0, (No_marked s0).1, .inl (No_marked s0).2)), ((ob0 1), .inr (0, [.ref (ad0 8), .ref (ad0 9), .int (Fi_used (No_fields s0)), .ref (ad0 10), .ref (ad0 11), .int (Fi_nextUsed (No_fields s0))])), ((ad0 8), .inl (cA 0, (Fi_features (No_fields s0)).1, .inl (Fi_features (No_fields s0)).2)), ((ad0 9), .inl (cA 0, (Fi_parts (No_fields s0)).1, .inl (Fi_parts (No_fields s0)).2)), ((ad0 10), .inl (cA 0, (Fi_nextFeatures (No_fields s0)).1, .inl (Fi_nextFeatures (No_fields s0)).2)), ((ad0 11), .inl (cA 0, (Fi_nextParts (No_fields s0)).1, .inl (Fi_nextParts (No_fields s0)).2)), ((ob0 2), .inr (1, [.ref (ad0 12), .int (Ld_size (No_reached s0))])), ((ad0 12), .inl (cA 0, (Ld_row (No_reached s0)).1, .inl (Ld_row (No_reached s0)).2)), ((ob1 0), .inr (5, [.ref (ad1 0), .ref (ad1 1), .int (Pu_size s1)])), ((ad1 0), .inl (cA 0, (Pu_features s1).1, .inl (Pu_features s1).2)), ((ad1 1), .inl (cA 0, (Pu_parts s1).1, .inl (Pu_parts s1).2))]) (lv' := [(0, .ref (ob0 0)), (1, .int p0), (2, .int p1), (3, .ref (ob1 0))]) rfl rfl ?_
  refine x_aload_n F d_No_addWithFields_0 0 rfl rfl ?_
  refine x_get F ck_No hin_No 0 10 rfl (by decide) kw_143 rfl rfl d_No_addWithFields_1 ?_
  refine x_ldc (v := (32768 : Int32)) F kw_298 d_No_addWithFields_4 ?_
  refine x_icmp_ge F 26 d_No_addWithFields_6 (by decide) (fun c20 => ?_) (fun c20 => ?_)
  · replace hm := xm_t hm c20
    refine x_bipush (v := (-2 : Int32)) F d_No_addWithFields_26 (by decide) ?_
    replace hm := xm_p_some hm
    obtain ⟨eo, c_o, d_o⟩ := hm
    subst eo
    refine x_sub [0, 1, 2, 3, 4, 5, 6, 7, 8, 9, 10, 11, 12, 13, 14, 15, 16, 17, 18] (by decide) ?_ (xe_i E (xa [(ad0 0), (ad0 1), (ad0 2), (ad0 3), (ad0 4), (ad0 5), (ad0 6), (ad0 7), (ad0 8), (ad0 9), (ad0 10), (ad0 11), (ad0 12), (ad1 0), (ad1 1)]) (by omega) (by omega) rfl (xz_i _) d_No_addWithFields_28)
    rfl
  · replace hm := xm_f hm c20
    refine x_aload_n F d_No_addWithFields_9 0 rfl rfl ?_
    refine x_get F ck_No hin_No 0 12 rfl (by decide) kw_147 rfl rfl d_No_addWithFields_10 ?_
    refine x_getN F ck_Fi hin_Fi 9 2 rfl (by decide) kn_79 rfl rfl d_No_addWithFields_13 ?_
    refine x_aload_n F d_No_addWithFields_16 3 rfl rfl ?_
    refine x_getN F ck_Pu hin_Pu 16 2 rfl (by decide) kn_193 rfl rfl d_No_addWithFields_17 ?_
    refine x_iadd F d_No_addWithFields_20 ?_
    refine x_ldc (v := (65536 : Int32)) F kw_387 d_No_addWithFields_21 ?_
    refine x_icmp_le F 29 d_No_addWithFields_23 (by decide) (fun c21 => ?_) (fun c21 => ?_)
    · replace hm := xm_t hm c21
      refine x_aload_n F d_No_addWithFields_29 0 rfl rfl ?_
      refine x_aload_n F d_No_addWithFields_30 0 rfl rfl ?_
      replace hm := xm_b_some hm
      obtain ⟨o22, k23, k24, h25, hm, c_o22, d_o22⟩ := hm
      refine x_callV (n := 0) (C := R_No) (wr := [((ob1 0), .inr (5, [.ref (ad1 0), .ref (ad1 1), .int (Pu_size s1)])), ((ad1 0), .inl (cA 0, (Pu_features s1).1, .inl (Pu_features s1).2)), ((ad1 1), .inl (cA 0, (Pu_parts s1).1, .inl (Pu_parts s1).2))]) F (c_No_lowestFree l D cA n ob0 ad0 s0  o22 k23 h25) kw_302 kw_299 kw_301 kw_0 kw_40 ⟨rfl, by decide, by decide, by decide +kernel⟩ rfl (by decide) (by decide) (ci := 3) rfl rfl 0 rfl [0, 1, 2, 3, 4, 5, 6, 7, 8, 9, 10, 11, 12, 13, 14, 15] [16, 17, 18] rfl rfl (by decide) (by decide) (by decide) rfl (Nat.le_of_ble_eq_true rfl) (by omega) (by omega) d_No_addWithFields_31 (fun ad26 => ?_)
      refine x_nf (ws' := [((ob1 0), .inr (5, [.ref (ad1 0), .ref (ad1 1), .int (Pu_size s1)])), ((ad1 0), .inl (cA 0, (Pu_features s1).1, .inl (Pu_features s1).2)), ((ad1 1), .inl (cA 0, (Pu_parts s1).1, .inl (Pu_parts s1).2)), ((ob0 0), .inr (3, [.ref (ad0 0), .ref (ad0 1), .ref (ad0 2), .ref (ad0 3), .ref (ad0 4), .ref (ad0 5), .ref (ad0 6), .ref (ad0 7), .int (No_top s0), .int (No_lowest s0), .int (No_alive s0), .int (No_marks s0), .ref (ob0 1), .ref (ob0 2)])), ((ad0 0), .inl (cA 0, (No_kinds s0).1, .inl (No_kinds s0).2)), ((ad0 1), .inl (cA 0, (No_values s0).1, .inl (No_values s0).2)), ((ad0 2), .inl (cA 0, (No_starts s0).1, .inl (No_starts s0).2)), ((ad0 3), .inl (cA 0, (No_sizes s0).1, .inl (No_sizes s0).2)), ((ad0 4), .inl (cA 0, (No_lead s0).1, .inl (No_lead s0).2)), ((ad0 5), .inl (cA 0, (No_bodies s0).1, .inl (No_bodies s0).2)), ((ad0 6), .inl (cA 0, (No_needed s0).1, .inl (No_needed s0).2)), ((ad0 7), .inl (cA 0, (No_marked s0).1, .inl (No_marked s0).2)), ((ob0 1), .inr (0, [.ref (ad0 8), .ref (ad0 9), .int (Fi_used (No_fields s0)), .ref (ad0 10), .ref (ad0 11), .int (Fi_nextUsed (No_fields s0))])), ((ad0 8), .inl (cA 0, (Fi_features (No_fields s0)).1, .inl (Fi_features (No_fields s0)).2)), ((ad0 9), .inl (cA 0, (Fi_parts (No_fields s0)).1, .inl (Fi_parts (No_fields s0)).2)), ((ad0 10), .inl (cA 0, (Fi_nextFeatures (No_fields s0)).1, .inl (Fi_nextFeatures (No_fields s0)).2)), ((ad0 11), .inl (cA 0, (Fi_nextParts (No_fields s0)).1, .inl (Fi_nextParts (No_fields s0)).2)), ((ob0 2), .inr (1, [.ref (ad0 12), .int (Ld_size (No_reached s0))])), ((ad0 12), .inl (cA 0, (Ld_row (No_reached s0)).1, .inl (Ld_row (No_reached s0)).2))]) (st' := [.int o22, .ref (ob0 0)]) rfl rfl ?_
      refine x_iload_n F d_No_addWithFields_34 1 rfl rfl ?_
      refine x_iload_n F d_No_addWithFields_35 2 rfl rfl ?_
      replace hm := xm_b_some hm
      obtain ⟨o27, k28, k29, h30, hm, c_o27, d_o27⟩ := hm
      refine x_callV (n := 3) (C := R_No) (wr := [((ob1 0), .inr (5, [.ref (ad1 0), .ref (ad1 1), .int (Pu_size s1)])), ((ad1 0), .inl (cA 0, (Pu_features s1).1, .inl (Pu_features s1).2)), ((ad1 1), .inl (cA 0, (Pu_parts s1).1, .inl (Pu_parts s1).2))]) F (c_No_settleAt l D cA n ob0 ad0 s0 o22 p0 p1 o27 k28 h30) kw_306 kw_303 kw_305 kw_1 kw_40 ⟨rfl, by decide, by decide, by decide +kernel⟩ rfl (by decide) (by decide) (ci := 3) rfl rfl 0 rfl [3, 4, 5, 6, 7, 8, 9, 10, 11, 12, 13, 14, 15, 16, 17, 18] [0, 1, 2] rfl rfl (by decide) (by decide) (by decide) rfl (Nat.le_of_ble_eq_true rfl) (by omega) (by omega) d_No_addWithFields_36 (fun ad31 => ?_)
      refine x_nf (ws' := [((ob1 0), .inr (5, [.ref (ad1 0), .ref (ad1 1), .int (Pu_size s1)])), ((ad1 0), .inl (cA 0, (Pu_features s1).1, .inl (Pu_features s1).2)), ((ad1 1), .inl (cA 0, (Pu_parts s1).1, .inl (Pu_parts s1).2)), ((ob0 0), .inr (3, [.ref (ad31 0), .ref (ad31 1), .ref (ad31 2), .ref (ad31 3), .ref (ad31 4), .ref (ad31 5), .ref (ad31 6), .ref (ad31 7), .int (No_top (o27.2)), .int (No_lowest (o27.2)), .int (No_alive (o27.2)), .int (No_marks (o27.2)), .ref (ob0 1), .ref (ob0 2)])), ((ad31 0), .inl (cA 0, (No_kinds (o27.2)).1, .inl (No_kinds (o27.2)).2)), ((ad31 1), .inl (cA 0, (No_values (o27.2)).1, .inl (No_values (o27.2)).2)), ((ad31 2), .inl (cA 0, (No_starts (o27.2)).1, .inl (No_starts (o27.2)).2)), ((ad31 3), .inl (cA 0, (No_sizes (o27.2)).1, .inl (No_sizes (o27.2)).2)), ((ad31 4), .inl (cA 0, (No_lead (o27.2)).1, .inl (No_lead (o27.2)).2)), ((ad31 5), .inl (cA 0, (No_bodies (o27.2)).1, .inl (No_bodies (o27.2)).2)), ((ad31 6), .inl (cA 0, (No_needed (o27.2)).1, .inl (No_needed (o27.2)).2)), ((ad31 7), .inl (cA 0, (No_marked (o27.2)).1, .inl (No_marked (o27.2)).2)), ((ob0 1), .inr (0, [.ref (ad31 8), .ref (ad31 9), .int (Fi_used (No_fields (o27.2))), .ref (ad31 10), .ref (ad31 11), .int (Fi_nextUsed (No_fields (o27.2)))])), ((ad31 8), .inl (cA 0, (Fi_features (No_fields (o27.2))).1, .inl (Fi_features (No_fields (o27.2))).2)), ((ad31 9), .inl (cA 0, (Fi_parts (No_fields (o27.2))).1, .inl (Fi_parts (No_fields (o27.2))).2)), ((ad31 10), .inl (cA 0, (Fi_nextFeatures (No_fields (o27.2))).1, .inl (Fi_nextFeatures (No_fields (o27.2))).2)), ((ad31 11), .inl (cA 0, (Fi_nextParts (No_fields (o27.2))).1, .inl (Fi_nextParts (No_fields (o27.2))).2)), ((ob0 2), .inr (1, [.ref (ad31 12), .int (Ld_size (No_reached (o27.2)))])), ((ad31 12), .inl (cA 0, (Ld_row (No_reached (o27.2))).1, .inl (Ld_row (No_reached (o27.2))).2))]) (st' := [.int (o27.1)]) rfl rfl ?_
      refine x_istore (lv' := [(4, .int (o27.1)), (0, .ref (ob0 0)), (1, .int p0), (2, .int p1), (3, .ref (ob1 0))]) F d_No_addWithFields_39 (by decide) rfl ?_
      refine x_aload_n F d_No_addWithFields_41 1 rfl rfl ?_
      refine x_get F ck_No hin_No 3 3 rfl (by decide) kw_123 rfl rfl d_No_addWithFields_42 ?_
      refine x_iload F d_No_addWithFields_45 0 rfl ?_
      refine x_aload_n F d_No_addWithFields_47 4 rfl rfl ?_
      refine x_getN F ck_Pu hin_Pu 0 2 rfl (by decide) kn_193 rfl rfl d_No_addWithFields_48 ?_
      replace hm := xm_wr_some hm
      obtain ⟨a32, e_a32, b_a32, hm⟩ := hm
      refine x_iast (x := (No_sizes (o27.2))) (x' := a32) (ws' := [((ob1 0), .inr (5, [.ref (ad1 0), .ref (ad1 1), .int (Pu_size s1)])), ((ad1 0), .inl (cA 0, (Pu_features s1).1, .inl (Pu_features s1).2)), ((ad1 1), .inl (cA 0, (Pu_parts s1).1, .inl (Pu_parts s1).2)), ((ob0 0), .inr (3, [.ref (ad31 0), .ref (ad31 1), .ref (ad31 2), .ref (ad31 3), .ref (ad31 4), .ref (ad31 5), .ref (ad31 6), .ref (ad31 7), .int (No_top (o27.2)), .int (No_lowest (o27.2)), .int (No_alive (o27.2)), .int (No_marks (o27.2)), .ref (ob0 1), .ref (ob0 2)])), ((ad31 0), .inl (cA 0, (No_kinds (o27.2)).1, .inl (No_kinds (o27.2)).2)), ((ad31 1), .inl (cA 0, (No_values (o27.2)).1, .inl (No_values (o27.2)).2)), ((ad31 2), .inl (cA 0, (No_starts (o27.2)).1, .inl (No_starts (o27.2)).2)), ((ad31 3), .inl (cA 0, a32.1, .inl a32.2)), ((ad31 4), .inl (cA 0, (No_lead (o27.2)).1, .inl (No_lead (o27.2)).2)), ((ad31 5), .inl (cA 0, (No_bodies (o27.2)).1, .inl (No_bodies (o27.2)).2)), ((ad31 6), .inl (cA 0, (No_needed (o27.2)).1, .inl (No_needed (o27.2)).2)), ((ad31 7), .inl (cA 0, (No_marked (o27.2)).1, .inl (No_marked (o27.2)).2)), ((ob0 1), .inr (0, [.ref (ad31 8), .ref (ad31 9), .int (Fi_used (No_fields (o27.2))), .ref (ad31 10), .ref (ad31 11), .int (Fi_nextUsed (No_fields (o27.2)))])), ((ad31 8), .inl (cA 0, (Fi_features (No_fields (o27.2))).1, .inl (Fi_features (No_fields (o27.2))).2)), ((ad31 9), .inl (cA 0, (Fi_parts (No_fields (o27.2))).1, .inl (Fi_parts (No_fields (o27.2))).2)), ((ad31 10), .inl (cA 0, (Fi_nextFeatures (No_fields (o27.2))).1, .inl (Fi_nextFeatures (No_fields (o27.2))).2)), ((ad31 11), .inl (cA 0, (Fi_nextParts (No_fields (o27.2))).1, .inl (Fi_nextParts (No_fields (o27.2))).2)), ((ob0 2), .inr (1, [.ref (ad31 12), .int (Ld_size (No_reached (o27.2)))])), ((ad31 12), .inl (cA 0, (Ld_row (No_reached (o27.2))).1, .inl (Ld_row (No_reached (o27.2))).2))]) F 7 rfl e_a32 b_a32 rfl d_No_addWithFields_51 ?_
      refine x_aload_n F d_No_addWithFields_52 1 rfl rfl ?_
      refine x_get F ck_No hin_No 3 2 rfl (by decide) kw_120 rfl rfl d_No_addWithFields_53 ?_
      refine x_iload F d_No_addWithFields_56 0 rfl ?_
      refine x_aload_n F d_No_addWithFields_58 1 rfl rfl ?_
      refine x_get F ck_No hin_No 3 12 rfl (by decide) kw_147 rfl rfl d_No_addWithFields_59 ?_
      refine x_aload_n F d_No_addWithFields_62 4 rfl rfl ?_
      replace hm := xm_b_some hm
      obtain ⟨o33, k34, k35, h36, hm, c_o33, d_o33⟩ := hm
      refine x_callV (n := 1) (C := R_Fi) (wr := [((ob0 0), .inr (3, [.ref (ad31 0), .ref (ad31 1), .ref (ad31 2), .ref (ad31 3), .ref (ad31 4), .ref (ad31 5), .ref (ad31 6), .ref (ad31 7), .int (No_top (o27.2)), .int (No_lowest (o27.2)), .int (No_alive (o27.2)), .int (No_marks (o27.2)), .ref (ob0 1), .ref (ob0 2)])), ((ad31 0), .inl (cA 0, (No_kinds (o27.2)).1, .inl (No_kinds (o27.2)).2)), ((ad31 1), .inl (cA 0, (No_values (o27.2)).1, .inl (No_values (o27.2)).2)), ((ad31 2), .inl (cA 0, (No_starts (o27.2)).1, .inl (No_starts (o27.2)).2)), ((ad31 3), .inl (cA 0, a32.1, .inl a32.2)), ((ad31 4), .inl (cA 0, (No_lead (o27.2)).1, .inl (No_lead (o27.2)).2)), ((ad31 5), .inl (cA 0, (No_bodies (o27.2)).1, .inl (No_bodies (o27.2)).2)), ((ad31 6), .inl (cA 0, (No_needed (o27.2)).1, .inl (No_needed (o27.2)).2)), ((ad31 7), .inl (cA 0, (No_marked (o27.2)).1, .inl (No_marked (o27.2)).2)), ((ob0 2), .inr (1, [.ref (ad31 12), .int (Ld_size (No_reached (o27.2)))])), ((ad31 12), .inl (cA 0, (Ld_row (No_reached (o27.2))).1, .inl (Ld_row (No_reached (o27.2))).2))]) F (c_Fi_takeIn l D cA n (fun i => ob0 (i + 1)) (fun i => ad31 (i + 8)) (No_fields (o27.2)) ob1 ad1 s1  o33 k34 h36) kw_391 kw_388 kw_389 kw_390 kw_41 ⟨rfl, by decide, by decide, by decide +kernel⟩ rfl (by decide) (by decide) (ci := 0) rfl rfl 0 rfl [12, 13, 14, 15, 16, 0, 1, 2] [3, 4, 5, 6, 7, 8, 9, 10, 11, 17, 18] rfl rfl (by decide) (by decide) (by decide) rfl (Nat.le_of_ble_eq_true rfl) (by omega) (by omega) d_No_addWithFields_63 (fun ad37 => ?_)
      refine x_nf (ws' := [((ob0 0), .inr (3, [.ref (ad31 0), .ref (ad31 1), .ref (ad31 2), .ref (ad31 3), .ref (ad31 4), .ref (ad31 5), .ref (ad31 6), .ref (ad31 7), .int (No_top (o27.2)), .int (No_lowest (o27.2)), .int (No_alive (o27.2)), .int (No_marks (o27.2)), .ref (ob0 1), .ref (ob0 2)])), ((ad31 0), .inl (cA 0, (No_kinds (o27.2)).1, .inl (No_kinds (o27.2)).2)), ((ad31 1), .inl (cA 0, (No_values (o27.2)).1, .inl (No_values (o27.2)).2)), ((ad31 2), .inl (cA 0, (No_starts (o27.2)).1, .inl (No_starts (o27.2)).2)), ((ad31 3), .inl (cA 0, a32.1, .inl a32.2)), ((ad31 4), .inl (cA 0, (No_lead (o27.2)).1, .inl (No_lead (o27.2)).2)), ((ad31 5), .inl (cA 0, (No_bodies (o27.2)).1, .inl (No_bodies (o27.2)).2)), ((ad31 6), .inl (cA 0, (No_needed (o27.2)).1, .inl (No_needed (o27.2)).2)), ((ad31 7), .inl (cA 0, (No_marked (o27.2)).1, .inl (No_marked (o27.2)).2)), ((ob0 2), .inr (1, [.ref (ad31 12), .int (Ld_size (No_reached (o27.2)))])), ((ad31 12), .inl (cA 0, (Ld_row (No_reached (o27.2))).1, .inl (Ld_row (No_reached (o27.2))).2)), ((ob0 1), .inr (0, [.ref (ad37 0), .ref (ad37 1), .int (Fi_used (o33.2)), .ref (ad37 2), .ref (ad37 3), .int (Fi_nextUsed (o33.2))])), ((ad37 0), .inl (cA 0, (Fi_features (o33.2)).1, .inl (Fi_features (o33.2)).2)), ((ad37 1), .inl (cA 0, (Fi_parts (o33.2)).1, .inl (Fi_parts (o33.2)).2)), ((ad37 2), .inl (cA 0, (Fi_nextFeatures (o33.2)).1, .inl (Fi_nextFeatures (o33.2)).2)), ((ad37 3), .inl (cA 0, (Fi_nextParts (o33.2)).1, .inl (Fi_nextParts (o33.2)).2)), ((ob1 0), .inr (5, [.ref (ad1 0), .ref (ad1 1), .int (Pu_size s1)])), ((ad1 0), .inl (cA 0, (Pu_features s1).1, .inl (Pu_features s1).2)), ((ad1 1), .inl (cA 0, (Pu_parts s1).1, .inl (Pu_parts s1).2))]) (st' := [.int (o33.1), .int (o27.1), .ref (ad31 2)]) rfl rfl ?_
      replace hm := xm_wr_some hm
      obtain ⟨a38, e_a38, b_a38, hm⟩ := hm
      refine x_iast (x := (No_starts (o27.2))) (x' := a38) (ws' := [((ob0 0), .inr (3, [.ref (ad31 0), .ref (ad31 1), .ref (ad31 2), .ref (ad31 3), .ref (ad31 4), .ref (ad31 5), .ref (ad31 6), .ref (ad31 7), .int (No_top (o27.2)), .int (No_lowest (o27.2)), .int (No_alive (o27.2)), .int (No_marks (o27.2)), .ref (ob0 1), .ref (ob0 2)])), ((ad31 0), .inl (cA 0, (No_kinds (o27.2)).1, .inl (No_kinds (o27.2)).2)), ((ad31 1), .inl (cA 0, (No_values (o27.2)).1, .inl (No_values (o27.2)).2)), ((ad31 2), .inl (cA 0, a38.1, .inl a38.2)), ((ad31 3), .inl (cA 0, a32.1, .inl a32.2)), ((ad31 4), .inl (cA 0, (No_lead (o27.2)).1, .inl (No_lead (o27.2)).2)), ((ad31 5), .inl (cA 0, (No_bodies (o27.2)).1, .inl (No_bodies (o27.2)).2)), ((ad31 6), .inl (cA 0, (No_needed (o27.2)).1, .inl (No_needed (o27.2)).2)), ((ad31 7), .inl (cA 0, (No_marked (o27.2)).1, .inl (No_marked (o27.2)).2)), ((ob0 2), .inr (1, [.ref (ad31 12), .int (Ld_size (No_reached (o27.2)))])), ((ad31 12), .inl (cA 0, (Ld_row (No_reached (o27.2))).1, .inl (Ld_row (No_reached (o27.2))).2)), ((ob0 1), .inr (0, [.ref (ad37 0), .ref (ad37 1), .int (Fi_used (o33.2)), .ref (ad37 2), .ref (ad37 3), .int (Fi_nextUsed (o33.2))])), ((ad37 0), .inl (cA 0, (Fi_features (o33.2)).1, .inl (Fi_features (o33.2)).2)), ((ad37 1), .inl (cA 0, (Fi_parts (o33.2)).1, .inl (Fi_parts (o33.2)).2)), ((ad37 2), .inl (cA 0, (Fi_nextFeatures (o33.2)).1, .inl (Fi_nextFeatures (o33.2)).2)), ((ad37 3), .inl (cA 0, (Fi_nextParts (o33.2)).1, .inl (Fi_nextParts (o33.2)).2)), ((ob1 0), .inr (5, [.ref (ad1 0), .ref (ad1 1), .int (Pu_size s1)])), ((ad1 0), .inl (cA 0, (Pu_features s1).1, .inl (Pu_features s1).2)), ((ad1 1), .inl (cA 0, (Pu_parts s1).1, .inl (Pu_parts s1).2))]) F 3 rfl e_a38 b_a38 rfl d_No_addWithFields_66 ?_
      refine x_aload_n F d_No_addWithFields_67 4 rfl rfl ?_
      refine x_iconst (v := (0 : Int32)) F d_No_addWithFields_68 (by decide) ?_
      refine x_putN (ws' := [((ob0 0), .inr (3, [.ref (ad31 0), .ref (ad31 1), .ref (ad31 2), .ref (ad31 3), .ref (ad31 4), .ref (ad31 5), .ref (ad31 6), .ref (ad31 7), .int (No_top (o27.2)), .int (No_lowest (o27.2)), .int (No_alive (o27.2)), .int (No_marks (o27.2)), .ref (ob0 1), .ref (ob0 2)])), ((ad31 0), .inl (cA 0, (No_kinds (o27.2)).1, .inl (No_kinds (o27.2)).2)), ((ad31 1), .inl (cA 0, (No_values (o27.2)).1, .inl (No_values (o27.2)).2)), ((ad31 2), .inl (cA 0, a38.1, .inl a38.2)), ((ad31 3), .inl (cA 0, a32.1, .inl a32.2)), ((ad31 4), .inl (cA 0, (No_lead (o27.2)).1, .inl (No_lead (o27.2)).2)), ((ad31 5), .inl (cA 0, (No_bodies (o27.2)).1, .inl (No_bodies (o27.2)).2)), ((ad31 6), .inl (cA 0, (No_needed (o27.2)).1, .inl (No_needed (o27.2)).2)), ((ad31 7), .inl (cA 0, (No_marked (o27.2)).1, .inl (No_marked (o27.2)).2)), ((ob0 2), .inr (1, [.ref (ad31 12), .int (Ld_size (No_reached (o27.2)))])), ((ad31 12), .inl (cA 0, (Ld_row (No_reached (o27.2))).1, .inl (Ld_row (No_reached (o27.2))).2)), ((ob0 1), .inr (0, [.ref (ad37 0), .ref (ad37 1), .int (Fi_used (o33.2)), .ref (ad37 2), .ref (ad37 3), .int (Fi_nextUsed (o33.2))])), ((ad37 0), .inl (cA 0, (Fi_features (o33.2)).1, .inl (Fi_features (o33.2)).2)), ((ad37 1), .inl (cA 0, (Fi_parts (o33.2)).1, .inl (Fi_parts (o33.2)).2)), ((ad37 2), .inl (cA 0, (Fi_nextFeatures (o33.2)).1, .inl (Fi_nextFeatures (o33.2)).2)), ((ad37 3), .inl (cA 0, (Fi_nextParts (o33.2)).1, .inl (Fi_nextParts (o33.2)).2)), ((ob1 0), .inr (5, [.ref (ad1 0), .ref (ad1 1), .int (0 : Int32)])), ((ad1 0), .inl (cA 0, (Pu_features s1).1, .inl (Pu_features s1).2)), ((ad1 1), .inl (cA 0, (Pu_parts s1).1, .inl (Pu_parts s1).2))]) F ck_Pu hin_Pu 16 2 rfl (by decide) kn_193 rfl rfl rfl rfl (Nat.le_of_ble_eq_true rfl) rfl d_No_addWithFields_69 ?_
      refine x_iload F d_No_addWithFields_72 0 rfl ?_
      replace hm := xm_p_some hm
      obtain ⟨eo, c_o, d_o⟩ := hm
      subst eo
      refine x_sub [0, 1, 2, 3, 4, 5, 6, 7, 8, 11, 12, 13, 14, 15, 9, 10, 16, 17, 18] (by decide) ?_ (xe_i E (xa [(ad31 0), (ad31 1), (ad31 2), (ad31 3), (ad31 4), (ad31 5), (ad31 6), (ad31 7), (ad37 0), (ad37 1), (ad37 2), (ad37 3), (ad31 12), (ad1 0), (ad1 1)]) (by omega) (by omega) rfl (xz_i _) d_No_addWithFields_74)
      rfl
    · replace hm := xm_f hm c21
      refine x_bipush (v := (-2 : Int32)) F d_No_addWithFields_26 (by decide) ?_
      replace hm := xm_p_some hm
      obtain ⟨eo, c_o, d_o⟩ := hm
      subst eo
      refine x_sub [0, 1, 2, 3, 4, 5, 6, 7, 8, 9, 10, 11, 12, 13, 14, 15, 16, 17, 18] (by decide) ?_ (xe_i E (xa [(ad0 0), (ad0 1), (ad0 2), (ad0 3), (ad0 4), (ad0 5), (ad0 6), (ad0 7), (ad0 8), (ad0 9), (ad0 10), (ad0 11), (ad0 12), (ad1 0), (ad1 1)]) (by omega) (by omega) rfl (xz_i _) d_No_addWithFields_28)
      rfl

noncomputable def m_No_placeNumbered (n : Nat) (s0 : S_No) (p0 : Int32) (p1 : Int32) : MO (Int32) := (xm_rd (No_lead s0) p0 (fun v7 => (xm_rd (No_bodies s0) v7 (fun v8 => (if p1 < 0 then (xm_p (-1 : Int32)) else (xm_rd (No_sizes s0) v8 (fun v10 => (if v10 ≤ p1 then (xm_p (-1 : Int32)) else (xm_rd (No_starts s0) v8 (fun v12 => (xm_p (v12 + p1))))))))))))
set_option maxHeartbeats 4000000 in
set_option maxRecDepth 100000 in
theorem c_No_placeNumbered (l : Launch) (D : va_G) (cA : Nat → ClassId) (n : Nat) (ob0 ad0 : Nat → Nat) (s0 : S_No) (p0 : Int32) (p1 : Int32) (out : Int32) (k : KC) (hm : m_No_placeNumbered n s0 p0 p1 = some (out, k)) : XM l D cA y_No_placeNumbered b_No_placeNumbered 4 (some FieldType.int) 0 0 [.ref (ob0 0), .int p0, .int p1] ((w_No cA ob0 ad0  s0)) k (fun _ => some (.int out)) (fun ad => (w_No cA ob0 ad0  s0)) := by
  refine x_met (cc := b_No_placeNumbered) (nL := 4) (ret := (some FieldType.int)) R_No (by decide) (Nat.le_of_ble_eq_true rfl) rfl (fun X F I E => ?_)
  unfold m_No_placeNumbered at hm
  refine x_nf2 (ws' := [((ob0 0), .inr (3, [.ref (ad0 0), .ref (ad0 1), .ref (ad0 2), .ref (ad0 3), .ref (ad0 4), .ref (ad0 5), .ref (ad0 6), .ref (ad0 7), .int (No_top s0), .int (No_lowest s0), .int (No_alive s0), .int (No_marks s0), .ref (ob0 1), .ref (ob0 2)])), ((ad0 0), .inl (cA 0, (No_kinds s0).1, .inl (No_kinds s0).2)), ((ad0 1), .inl (cA 0, (No_values s0).1, .inl (No_values s0).2)), ((ad0 2), .inl (cA 0, (No_starts s0).1, .inl (No_starts s0).2)), ((ad0 3), .inl (cA 0, (No_sizes s0).1, .inl (No_sizes s0).2)), ((ad0 4), .inl (cA 0, (No_lead s0).1, .inl (No_lead s0).2)), ((ad0 5), .inl (cA 0, (No_bodies s0).1, .inl (No_bodies s0).2)), ((ad0 6), .inl (cA 0, (No_needed s0).1, .inl (No_needed s0).2)), ((ad0 7), .inl (cA 0, (No_marked s0).1, .inl (No_marked s0).2)), ((ob0 1), .inr (0, [.ref (ad0 8), .ref (ad0 9), .int (Fi_used (No_fields s0)), .ref (ad0 10), .ref (ad0 11), .int (Fi_nextUsed (No_fields s0))])), ((ad0 8), .inl (cA 0, (Fi_features (No_fields s0)).1, .inl (Fi_features (No_fields s0)).2)), ((ad0 9), .inl (cA 0, (Fi_parts (No_fields s0)).1, .inl (Fi_parts (No_fields s0)).2)), ((ad0 10), .inl (cA 0, (Fi_nextFeatures (No_fields s0)).1, .inl (Fi_nextFeatures (No_fields s0)).2)), ((ad0 11), .inl (cA 0, (Fi_nextParts (No_fields s0)).1, .inl (Fi_nextParts (No_fields s0)).2)), ((ob0 2), .inr (1, [.ref (ad0 12), .int (Ld_size (No_reached s0))])), ((ad0 12), .inl (cA 0, (Ld_row (No_reached s0)).1, .inl (Ld_row (No_reached s0)).2))]) (lv' := [(0, .ref (ob0 0)), (1, .int p0), (2, .int p1)]) rfl rfl ?_
  refine x_aload_n F d_No_placeNumbered_0 0 rfl rfl ?_
  refine x_get F ck_No hin_No 0 5 rfl (by decide) kw_131 rfl rfl d_No_placeNumbered_1 ?_
  refine x_aload_n F d_No_placeNumbered_4 0 rfl rfl ?_
  refine x_get F ck_No hin_No 0 4 rfl (by decide) kw_127 rfl rfl d_No_placeNumbered_5 ?_
  refine x_iload_n F d_No_placeNumbered_8 1 rfl rfl ?_
  replace hm := xm_rd_some hm
  obtain ⟨v7, e_v7, b_v7, hm⟩ := hm
  refine x_iald (x := (No_lead s0)) F 5 rfl e_v7 b_v7 d_No_placeNumbered_9 ?_
  replace hm := xm_rd_some hm
  obtain ⟨v8, e_v8, b_v8, hm⟩ := hm
  refine x_iald (x := (No_bodies s0)) F 6 rfl e_v8 b_v8 d_No_placeNumbered_10 ?_
  refine x_istore_n (lv' := [(3, .int v8), (0, .ref (ob0 0)), (1, .int p0), (2, .int p1)]) F d_No_placeNumbered_11 rfl (by decide) rfl ?_
  refine x_iload_n F d_No_placeNumbered_12 3 rfl rfl ?_
  refine x_if_lt F 37 d_No_placeNumbered_13 (by decide) (fun c9 => ?_) (fun c9 => ?_)
  · replace hm := xm_t hm c9
    refine x_iconst (v := (-1 : Int32)) F d_No_placeNumbered_37 (by decide) ?_
    replace hm := xm_p_some hm
    obtain ⟨eo, c_o, d_o⟩ := hm
    subst eo
    refine x_sub [0, 1, 2, 3, 4, 5, 6, 7, 8, 9, 10, 11, 12, 13, 14, 15] (by decide) ?_ (xe_i E (fun _ => 0) (by omega) (by omega) rfl (xz_i _) d_No_placeNumbered_38)
    rfl
  · replace hm := xm_f hm c9
    refine x_iload_n F d_No_placeNumbered_16 3 rfl rfl ?_
    refine x_aload_n F d_No_placeNumbered_17 1 rfl rfl ?_
    refine x_get F ck_No hin_No 0 3 rfl (by decide) kw_123 rfl rfl d_No_placeNumbered_18 ?_
    refine x_iload_n F d_No_placeNumbered_21 0 rfl rfl ?_
    replace hm := xm_rd_some hm
    obtain ⟨v10, e_v10, b_v10, hm⟩ := hm
    refine x_iald (x := (No_sizes s0)) F 4 rfl e_v10 b_v10 d_No_placeNumbered_22 ?_
    refine x_icmp_ge F 37 d_No_placeNumbered_23 (by decide) (fun c11 => ?_) (fun c11 => ?_)
    · replace hm := xm_t hm c11
      refine x_iconst (v := (-1 : Int32)) F d_No_placeNumbered_37 (by decide) ?_
      replace hm := xm_p_some hm
      obtain ⟨eo, c_o, d_o⟩ := hm
      subst eo
      refine x_sub [0, 1, 2, 3, 4, 5, 6, 7, 8, 9, 10, 11, 12, 13, 14, 15] (by decide) ?_ (xe_i E (fun _ => 0) (by omega) (by omega) rfl (xz_i _) d_No_placeNumbered_38)
      rfl
    · replace hm := xm_f hm c11
      refine x_aload_n F d_No_placeNumbered_26 1 rfl rfl ?_
      refine x_get F ck_No hin_No 0 2 rfl (by decide) kw_120 rfl rfl d_No_placeNumbered_27 ?_
      refine x_iload_n F d_No_placeNumbered_30 0 rfl rfl ?_
      replace hm := xm_rd_some hm
      obtain ⟨v12, e_v12, b_v12, hm⟩ := hm
      refine x_iald (x := (No_starts s0)) F 3 rfl e_v12 b_v12 d_No_placeNumbered_31 ?_
      refine x_iload_n F d_No_placeNumbered_32 3 rfl rfl ?_
      refine x_iadd F d_No_placeNumbered_33 ?_
      refine x_goto F 38 d_No_placeNumbered_34 (by decide) ?_
      replace hm := xm_p_some hm
      obtain ⟨eo, c_o, d_o⟩ := hm
      subst eo
      refine x_sub [0, 1, 2, 3, 4, 5, 6, 7, 8, 9, 10, 11, 12, 13, 14, 15] (by decide) ?_ (xe_i E (fun _ => 0) (by omega) (by omega) rfl (xz_i _) d_No_placeNumbered_38)
      rfl

noncomputable def L_No_placeOf_35 (y1 : Int32) (y2 : Int32) (y3 : Int32) (y4 : Int32) (s0 : S_No) (n i : Nat) : Int32 → MO ((Int32) ⊕ (Int32)) := Nat.rec (motive := fun _ => Int32 → MO ((Int32) ⊕ (Int32))) (fun _ => none) (fun _ ih x5 => (if y4 ≤ x5 then (xm_p (Sum.inl x5)) else (xm_rd (Fi_features (No_fields s0)) x5 (fun v15 => (if v15 = y2 then (xm_p (Sum.inr x5)) else (ih (x5 + 1))))))) i
theorem L_No_placeOf_35_s (y1 : Int32) (y2 : Int32) (y3 : Int32) (y4 : Int32) (s0 : S_No) (n i : Nat) (x5 : Int32) : L_No_placeOf_35 y1 y2 y3 y4 s0 n (i + 1) x5 = (if y4 ≤ x5 then (xm_p (Sum.inl x5)) else (xm_rd (Fi_features (No_fields s0)) x5 (fun v15 => (if v15 = y2 then (xm_p (Sum.inr x5)) else (L_No_placeOf_35 y1 y2 y3 y4 s0 n i (x5 + 1)))))) := rfl
noncomputable def m_No_placeOf (n : Nat) (s0 : S_No) (p0 : Int32) (p1 : Int32) : MO (Int32) := (xm_rd (No_lead s0) p0 (fun v9 => (xm_rd (No_bodies s0) v9 (fun v10 => (xm_rd (No_starts s0) v10 (fun v11 => (xm_rd (No_sizes s0) v10 (fun v12 => (xm_rd (No_starts s0) v10 (fun v13 => (xm_b (L_No_placeOf_35 p0 p1 v10 (v11 + v12) s0 n n v13) (fun o17 => Sum.elim (fun e22 => (xm_p (-1 : Int32))) (fun z => xm_p z) o17))))))))))))
set_option maxHeartbeats 4000000 in
set_option maxRecDepth 100000 in
theorem wl_No_placeOf_35 {X : XT} {l : Launch} {D : va_G} {cA : Nat → ClassId} {mc ms : Nat} (F : XF X l D cA b_No_placeOf 6 (some FieldType.int) R_No 0 0 mc ms) (n : Nat) (ob0 : Nat → Nat) (y1 : Int32) (y2 : Int32) (y3 : Int32) (y4 : Int32) (s0 : S_No)  (ad0 : Nat → Nat) : ∀ (i : Nat) (x5 : Int32)  (nc ns : Nat) (out : (Int32) ⊕ (Int32)) (k : KC), L_No_placeOf_35 y1 y2 y3 y4 s0 n i x5 = some (out, k) → nc + k.1 ≤ mc → ns + k.2 ≤ ms → (∀ e : Int32, out = Sum.inl e → ∀ ad : Nat → Nat, XW X 6 ((w_No cA ob0 ad0  s0)) (nc + k.1) (ns + k.2) 65 [(0, .ref (ob0 0)), (1, .int y1), (2, .int y2), (3, .int y3), (4, .int y4), (5, .int e)] []) → (∀ r : Int32, out = Sum.inr r → ∀ (ad : Nat → Nat) (pc : Nat) (lv : List (Nat × Value)), narrow .int (.int r) = .int r → decode b_No_placeOf pc = .ok (.ireturn, 1) → XW X 6 ((w_No cA ob0 ad0  s0)) (nc + k.1) (ns + k.2) pc lv [.int r]) → XW X 6 ((w_No cA ob0 ad0  s0)) nc ns 35 [(0, .ref (ob0 0)), (1, .int y1), (2, .int y2), (3, .int y3), (4, .int y4), (5, .int x5)] [] := by
  intro i
  induction i with
  | zero =>
    intro x5  nc ns out k hm
    replace hm : (none : MO ((Int32) ⊕ (Int32))) = some (out, k) := hm
    cases hm
  | succ i ih =>
    intro x5  nc ns out k hm hc hs KX KR
    rw [L_No_placeOf_35_s] at hm
    refine x_ws (ws' := [((ob0 0), .inr (3, [.ref (ad0 0), .ref (ad0 1), .ref (ad0 2), .ref (ad0 3), .ref (ad0 4), .ref (ad0 5), .ref (ad0 6), .ref (ad0 7), .int (No_top s0), .int (No_lowest s0), .int (No_alive s0), .int (No_marks s0), .ref (ob0 1), .ref (ob0 2)])), ((ad0 0), .inl (cA 0, (No_kinds s0).1, .inl (No_kinds s0).2)), ((ad0 1), .inl (cA 0, (No_values s0).1, .inl (No_values s0).2)), ((ad0 2), .inl (cA 0, (No_starts s0).1, .inl (No_starts s0).2)), ((ad0 3), .inl (cA 0, (No_sizes s0).1, .inl (No_sizes s0).2)), ((ad0 4), .inl (cA 0, (No_lead s0).1, .inl (No_lead s0).2)), ((ad0 5), .inl (cA 0, (No_bodies s0).1, .inl (No_bodies s0).2)), ((ad0 6), .inl (cA 0, (No_needed s0).1, .inl (No_needed s0).2)), ((ad0 7), .inl (cA 0, (No_marked s0).1, .inl (No_marked s0).2)), ((ob0 1), .inr (0, [.ref (ad0 8), .ref (ad0 9), .int (Fi_used (No_fields s0)), .ref (ad0 10), .ref (ad0 11), .int (Fi_nextUsed (No_fields s0))])), ((ad0 8), .inl (cA 0, (Fi_features (No_fields s0)).1, .inl (Fi_features (No_fields s0)).2)), ((ad0 9), .inl (cA 0, (Fi_parts (No_fields s0)).1, .inl (Fi_parts (No_fields s0)).2)), ((ad0 10), .inl (cA 0, (Fi_nextFeatures (No_fields s0)).1, .inl (Fi_nextFeatures (No_fields s0)).2)), ((ad0 11), .inl (cA 0, (Fi_nextParts (No_fields s0)).1, .inl (Fi_nextParts (No_fields s0)).2)), ((ob0 2), .inr (1, [.ref (ad0 12), .int (Ld_size (No_reached s0))])), ((ad0 12), .inl (cA 0, (Ld_row (No_reached s0)).1, .inl (Ld_row (No_reached s0)).2))]) rfl ?_
    refine x_iload F d_No_placeOf_35 5 rfl ?_
    refine x_iload F d_No_placeOf_37 4 rfl ?_
    refine x_icmp_ge F 65 d_No_placeOf_39 (by decide) (fun c14 => ?_) (fun c14 => ?_)
    · replace hm := xm_t hm c14
      replace hm := xm_p_some hm
      obtain ⟨eo, c_o, d_o⟩ := hm
      refine x_sub [0, 1, 2, 3, 4, 5, 6, 7, 8, 9, 10, 11, 12, 13, 14, 15] (by decide) ?_ (x_lv [0, 1, 2, 3, 4, 5] ?_ (x_cs (by omega) (by omega) (KX _ eo (fun _ => 0))))
      · rfl
      · rfl
    · replace hm := xm_f hm c14
      refine x_aload_n F d_No_placeOf_42 0 rfl rfl ?_
      refine x_get F ck_No hin_No 0 12 rfl (by decide) kw_147 rfl rfl d_No_placeOf_43 ?_
      refine x_getN F ck_Fi hin_Fi 9 0 rfl (by decide) kn_72 rfl rfl d_No_placeOf_46 ?_
      refine x_iload F d_No_placeOf_49 5 rfl ?_
      replace hm := xm_rd_some hm
      obtain ⟨v15, e_v15, b_v15, hm⟩ := hm
      refine x_iald (x := (Fi_features (No_fields s0))) F 10 rfl e_v15 b_v15 d_No_placeOf_51 ?_
      refine x_iload_n F d_No_placeOf_52 2 rfl rfl ?_
      refine x_icmp_ne F 59 d_No_placeOf_53 (by decide) (fun c16 => ?_) (fun c16 => ?_)
      · replace hm := xm_f hm c16
        refine x_iinc (v := (x5 + 1)) (lv' := [(5, .int (x5 + 1)), (0, .ref (ob0 0)), (1, .int y1), (2, .int y2), (3, .int y3), (4, .int y4)]) F d_No_placeOf_59 5 rfl rfl (by decide) rfl ?_
        refine x_goto F 35 d_No_placeOf_62 (by decide) ?_
        refine x_sub [0, 1, 2, 3, 4, 5, 6, 7, 8, 9, 10, 11, 12, 13, 14, 15] (by decide) ?_ (x_lv [1, 2, 3, 4, 5, 0] ?_ (ih (x5 + 1)  _ _ out k hm (by omega) (by omega) (fun e he ad => x_cs (by omega) (by omega) (KX e he ad)) (fun r hr ad pc lv hn hd => x_cs (by omega) (by omega) (KR r hr ad pc lv hn hd))))
        · rfl
        · rfl
      · replace hm := xm_t hm c16
        refine x_iload F d_No_placeOf_56 5 rfl ?_
        replace hm := xm_p_some hm
        obtain ⟨eo, c_o, d_o⟩ := hm
        refine x_sub [0, 1, 2, 3, 4, 5, 6, 7, 8, 9, 10, 11, 12, 13, 14, 15] (by decide) ?_ (x_cs (by omega) (by omega) (KR _ eo (fun _ => 0) _ _ (xz_i _) d_No_placeOf_58))
        rfl
set_option maxHeartbeats 4000000 in
set_option maxRecDepth 100000 in
theorem c_No_placeOf (l : Launch) (D : va_G) (cA : Nat → ClassId) (n : Nat) (ob0 ad0 : Nat → Nat) (s0 : S_No) (p0 : Int32) (p1 : Int32) (out : Int32) (k : KC) (hm : m_No_placeOf n s0 p0 p1 = some (out, k)) : XM l D cA y_No_placeOf b_No_placeOf 6 (some FieldType.int) 0 0 [.ref (ob0 0), .int p0, .int p1] ((w_No cA ob0 ad0  s0)) k (fun _ => some (.int out)) (fun ad => (w_No cA ob0 ad0  s0)) := by
  refine x_met (cc := b_No_placeOf) (nL := 6) (ret := (some FieldType.int)) R_No (by decide) (Nat.le_of_ble_eq_true rfl) rfl (fun X F I E => ?_)
  unfold m_No_placeOf at hm
  refine x_nf2 (ws' := [((ob0 0), .inr (3, [.ref (ad0 0), .ref (ad0 1), .ref (ad0 2), .ref (ad0 3), .ref (ad0 4), .ref (ad0 5), .ref (ad0 6), .ref (ad0 7), .int (No_top s0), .int (No_lowest s0), .int (No_alive s0), .int (No_marks s0), .ref (ob0 1), .ref (ob0 2)])), ((ad0 0), .inl (cA 0, (No_kinds s0).1, .inl (No_kinds s0).2)), ((ad0 1), .inl (cA 0, (No_values s0).1, .inl (No_values s0).2)), ((ad0 2), .inl (cA 0, (No_starts s0).1, .inl (No_starts s0).2)), ((ad0 3), .inl (cA 0, (No_sizes s0).1, .inl (No_sizes s0).2)), ((ad0 4), .inl (cA 0, (No_lead s0).1, .inl (No_lead s0).2)), ((ad0 5), .inl (cA 0, (No_bodies s0).1, .inl (No_bodies s0).2)), ((ad0 6), .inl (cA 0, (No_needed s0).1, .inl (No_needed s0).2)), ((ad0 7), .inl (cA 0, (No_marked s0).1, .inl (No_marked s0).2)), ((ob0 1), .inr (0, [.ref (ad0 8), .ref (ad0 9), .int (Fi_used (No_fields s0)), .ref (ad0 10), .ref (ad0 11), .int (Fi_nextUsed (No_fields s0))])), ((ad0 8), .inl (cA 0, (Fi_features (No_fields s0)).1, .inl (Fi_features (No_fields s0)).2)), ((ad0 9), .inl (cA 0, (Fi_parts (No_fields s0)).1, .inl (Fi_parts (No_fields s0)).2)), ((ad0 10), .inl (cA 0, (Fi_nextFeatures (No_fields s0)).1, .inl (Fi_nextFeatures (No_fields s0)).2)), ((ad0 11), .inl (cA 0, (Fi_nextParts (No_fields s0)).1, .inl (Fi_nextParts (No_fields s0)).2)), ((ob0 2), .inr (1, [.ref (ad0 12), .int (Ld_size (No_reached s0))])), ((ad0 12), .inl (cA 0, (Ld_row (No_reached s0)).1, .inl (Ld_row (No_reached s0)).2))]) (lv' := [(0, .ref (ob0 0)), (1, .int p0), (2, .int p1)]) rfl rfl ?_
  refine x_aload_n F d_No_placeOf_0 0 rfl rfl ?_
  refine x_get F ck_No hin_No 0 5 rfl (by decide) kw_131 rfl rfl d_No_placeOf_1 ?_
  refine x_aload_n F d_No_placeOf_4 0 rfl rfl ?_
  refine x_get F ck_No hin_No 0 4 rfl (by decide) kw_127 rfl rfl d_No_placeOf_5 ?_
  refine x_iload_n F d_No_placeOf_8 1 rfl rfl ?_
  replace hm := xm_rd_some hm
  obtain ⟨v9, e_v9, b_v9, hm⟩ := hm
  refine x_iald (x := (No_lead s0)) F 5 rfl e_v9 b_v9 d_No_placeOf_9 ?_
  replace hm := xm_rd_some hm
  obtain ⟨v10, e_v10, b_v10, hm⟩ := hm
  refine x_iald (x := (No_bodies s0)) F 6 rfl e_v10 b_v10 d_No_placeOf_10 ?_
  refine x_istore_n (lv' := [(3, .int v10), (0, .ref (ob0 0)), (1, .int p0), (2, .int p1)]) F d_No_placeOf_11 rfl (by decide) rfl ?_
  refine x_aload_n F d_No_placeOf_12 1 rfl rfl ?_
  refine x_get F ck_No hin_No 0 2 rfl (by decide) kw_120 rfl rfl d_No_placeOf_13 ?_
  refine x_iload_n F d_No_placeOf_16 0 rfl rfl ?_
  replace hm := xm_rd_some hm
  obtain ⟨v11, e_v11, b_v11, hm⟩ := hm
  refine x_iald (x := (No_starts s0)) F 3 rfl e_v11 b_v11 d_No_placeOf_17 ?_
  refine x_aload_n F d_No_placeOf_18 1 rfl rfl ?_
  refine x_get F ck_No hin_No 0 3 rfl (by decide) kw_123 rfl rfl d_No_placeOf_19 ?_
  refine x_iload_n F d_No_placeOf_22 0 rfl rfl ?_
  replace hm := xm_rd_some hm
  obtain ⟨v12, e_v12, b_v12, hm⟩ := hm
  refine x_iald (x := (No_sizes s0)) F 4 rfl e_v12 b_v12 d_No_placeOf_23 ?_
  refine x_iadd F d_No_placeOf_24 ?_
  refine x_istore (lv' := [(4, .int (v11 + v12)), (3, .int v10), (0, .ref (ob0 0)), (1, .int p0), (2, .int p1)]) F d_No_placeOf_25 (by decide) rfl ?_
  refine x_aload_n F d_No_placeOf_27 2 rfl rfl ?_
  refine x_get F ck_No hin_No 0 2 rfl (by decide) kw_120 rfl rfl d_No_placeOf_28 ?_
  refine x_iload_n F d_No_placeOf_31 1 rfl rfl ?_
  replace hm := xm_rd_some hm
  obtain ⟨v13, e_v13, b_v13, hm⟩ := hm
  refine x_iald (x := (No_starts s0)) F 3 rfl e_v13 b_v13 d_No_placeOf_32 ?_
  refine x_istore (lv' := [(5, .int v13), (4, .int (v11 + v12)), (3, .int v10), (0, .ref (ob0 0)), (1, .int p0), (2, .int p1)]) F d_No_placeOf_33 (by decide) rfl ?_
  replace hm := xm_b_some hm
  obtain ⟨o17, k18, k19, h20, hm, c_o17, d_o17⟩ := hm
  refine x_sub [0, 1, 2, 3, 4, 5, 6, 7, 8, 9, 10, 11, 12, 13, 14, 15] (by decide) ?_ (x_lv [3, 4, 5, 2, 1, 0] ?_ (wl_No_placeOf_35 F n ob0 p0 p1 v10 (v11 + v12) s0 ad0 n v13  _ _ o17 k18 h20 (by omega) (by omega) (fun e22 h24 ad21 => ?_) (fun r23 h24 ad21 pc lv hn hd => ?_)))
  · rfl
  · rfl
  · subst h24
    replace hm := xm_inl hm
    refine x_nf2 (ws' := [((ob0 0), .inr (3, [.ref (ad0 0), .ref (ad0 1), .ref (ad0 2), .ref (ad0 3), .ref (ad0 4), .ref (ad0 5), .ref (ad0 6), .ref (ad0 7), .int (No_top s0), .int (No_lowest s0), .int (No_alive s0), .int (No_marks s0), .ref (ob0 1), .ref (ob0 2)])), ((ad0 0), .inl (cA 0, (No_kinds s0).1, .inl (No_kinds s0).2)), ((ad0 1), .inl (cA 0, (No_values s0).1, .inl (No_values s0).2)), ((ad0 2), .inl (cA 0, (No_starts s0).1, .inl (No_starts s0).2)), ((ad0 3), .inl (cA 0, (No_sizes s0).1, .inl (No_sizes s0).2)), ((ad0 4), .inl (cA 0, (No_lead s0).1, .inl (No_lead s0).2)), ((ad0 5), .inl (cA 0, (No_bodies s0).1, .inl (No_bodies s0).2)), ((ad0 6), .inl (cA 0, (No_needed s0).1, .inl (No_needed s0).2)), ((ad0 7), .inl (cA 0, (No_marked s0).1, .inl (No_marked s0).2)), ((ob0 1), .inr (0, [.ref (ad0 8), .ref (ad0 9), .int (Fi_used (No_fields s0)), .ref (ad0 10), .ref (ad0 11), .int (Fi_nextUsed (No_fields s0))])), ((ad0 8), .inl (cA 0, (Fi_features (No_fields s0)).1, .inl (Fi_features (No_fields s0)).2)), ((ad0 9), .inl (cA 0, (Fi_parts (No_fields s0)).1, .inl (Fi_parts (No_fields s0)).2)), ((ad0 10), .inl (cA 0, (Fi_nextFeatures (No_fields s0)).1, .inl (Fi_nextFeatures (No_fields s0)).2)), ((ad0 11), .inl (cA 0, (Fi_nextParts (No_fields s0)).1, .inl (Fi_nextParts (No_fields s0)).2)), ((ob0 2), .inr (1, [.ref (ad0 12), .int (Ld_size (No_reached s0))])), ((ad0 12), .inl (cA 0, (Ld_row (No_reached s0)).1, .inl (Ld_row (No_reached s0)).2))]) (lv' := [(0, .ref (ob0 0)), (1, .int p0), (2, .int p1), (3, .int v10), (4, .int (v11 + v12)), (5, .int e22)]) rfl rfl ?_
    refine x_iconst (v := (-1 : Int32)) F d_No_placeOf_65 (by decide) ?_
    replace hm := xm_p_some hm
    obtain ⟨eo, c_o, d_o⟩ := hm
    subst eo
    refine x_sub [0, 1, 2, 3, 4, 5, 6, 7, 8, 9, 10, 11, 12, 13, 14, 15] (by decide) ?_ (xe_i E (fun _ => 0) (by omega) (by omega) rfl (xz_i _) d_No_placeOf_66)
    rfl
  · subst h24
    replace hm := xm_inr hm
    replace hm := xm_p_some hm
    obtain ⟨eo, c_o, d_o⟩ := hm
    subst eo
    exact xe_i E (fun _ => 0) (by omega) (by omega) rfl hn hd

noncomputable def m_No_partLeader (n : Nat) (s0 : S_No) (p0 : Int32) : MO (Int32) := (xm_rd (Fi_parts (No_fields s0)) p0 (fun v3 => (xm_rd (No_lead s0) v3 (fun v4 => (xm_p v4)))))
set_option maxHeartbeats 4000000 in
set_option maxRecDepth 100000 in
theorem c_No_partLeader (l : Launch) (D : va_G) (cA : Nat → ClassId) (n : Nat) (ob0 ad0 : Nat → Nat) (s0 : S_No) (p0 : Int32) (out : Int32) (k : KC) (hm : m_No_partLeader n s0 p0 = some (out, k)) : XM l D cA y_No_partLeader b_No_partLeader 2 (some FieldType.int) 0 0 [.ref (ob0 0), .int p0] ((w_No cA ob0 ad0  s0)) k (fun _ => some (.int out)) (fun ad => (w_No cA ob0 ad0  s0)) := by
  refine x_met (cc := b_No_partLeader) (nL := 2) (ret := (some FieldType.int)) R_No (by decide) (Nat.le_of_ble_eq_true rfl) rfl (fun X F I E => ?_)
  unfold m_No_partLeader at hm
  refine x_nf2 (ws' := [((ob0 0), .inr (3, [.ref (ad0 0), .ref (ad0 1), .ref (ad0 2), .ref (ad0 3), .ref (ad0 4), .ref (ad0 5), .ref (ad0 6), .ref (ad0 7), .int (No_top s0), .int (No_lowest s0), .int (No_alive s0), .int (No_marks s0), .ref (ob0 1), .ref (ob0 2)])), ((ad0 0), .inl (cA 0, (No_kinds s0).1, .inl (No_kinds s0).2)), ((ad0 1), .inl (cA 0, (No_values s0).1, .inl (No_values s0).2)), ((ad0 2), .inl (cA 0, (No_starts s0).1, .inl (No_starts s0).2)), ((ad0 3), .inl (cA 0, (No_sizes s0).1, .inl (No_sizes s0).2)), ((ad0 4), .inl (cA 0, (No_lead s0).1, .inl (No_lead s0).2)), ((ad0 5), .inl (cA 0, (No_bodies s0).1, .inl (No_bodies s0).2)), ((ad0 6), .inl (cA 0, (No_needed s0).1, .inl (No_needed s0).2)), ((ad0 7), .inl (cA 0, (No_marked s0).1, .inl (No_marked s0).2)), ((ob0 1), .inr (0, [.ref (ad0 8), .ref (ad0 9), .int (Fi_used (No_fields s0)), .ref (ad0 10), .ref (ad0 11), .int (Fi_nextUsed (No_fields s0))])), ((ad0 8), .inl (cA 0, (Fi_features (No_fields s0)).1, .inl (Fi_features (No_fields s0)).2)), ((ad0 9), .inl (cA 0, (Fi_parts (No_fields s0)).1, .inl (Fi_parts (No_fields s0)).2)), ((ad0 10), .inl (cA 0, (Fi_nextFeatures (No_fields s0)).1, .inl (Fi_nextFeatures (No_fields s0)).2)), ((ad0 11), .inl (cA 0, (Fi_nextParts (No_fields s0)).1, .inl (Fi_nextParts (No_fields s0)).2)), ((ob0 2), .inr (1, [.ref (ad0 12), .int (Ld_size (No_reached s0))])), ((ad0 12), .inl (cA 0, (Ld_row (No_reached s0)).1, .inl (Ld_row (No_reached s0)).2))]) (lv' := [(0, .ref (ob0 0)), (1, .int p0)]) rfl rfl ?_
  refine x_aload_n F d_No_partLeader_0 0 rfl rfl ?_
  refine x_get F ck_No hin_No 0 4 rfl (by decide) kw_127 rfl rfl d_No_partLeader_1 ?_
  refine x_aload_n F d_No_partLeader_4 0 rfl rfl ?_
  refine x_get F ck_No hin_No 0 12 rfl (by decide) kw_147 rfl rfl d_No_partLeader_5 ?_
  refine x_getN F ck_Fi hin_Fi 9 1 rfl (by decide) kn_76 rfl rfl d_No_partLeader_8 ?_
  refine x_iload_n F d_No_partLeader_11 1 rfl rfl ?_
  replace hm := xm_rd_some hm
  obtain ⟨v3, e_v3, b_v3, hm⟩ := hm
  refine x_iald (x := (Fi_parts (No_fields s0))) F 11 rfl e_v3 b_v3 d_No_partLeader_12 ?_
  replace hm := xm_rd_some hm
  obtain ⟨v4, e_v4, b_v4, hm⟩ := hm
  refine x_iald (x := (No_lead s0)) F 5 rfl e_v4 b_v4 d_No_partLeader_13 ?_
  replace hm := xm_p_some hm
  obtain ⟨eo, c_o, d_o⟩ := hm
  subst eo
  refine x_sub [0, 1, 2, 3, 4, 5, 6, 7, 8, 9, 10, 11, 12, 13, 14, 15] (by decide) ?_ (xe_i E (fun _ => 0) (by omega) (by omega) rfl (xz_i _) d_No_partLeader_14)
  rfl

noncomputable def L_No_sameShape_49 (y1 : Int32) (y2 : Int32) (s0 : S_No) (n i : Nat) : Int32 → MO ((Int32) ⊕ (Int32)) := Nat.rec (motive := fun _ => Int32 → MO ((Int32) ⊕ (Int32))) (fun _ => none) (fun _ ih x3 => (xm_rd (No_sizes s0) y1 (fun v26 => (if v26 ≤ x3 then (xm_p (Sum.inl x3)) else (xm_rd (No_starts s0) y1 (fun v28 => (xm_rd (Fi_features (No_fields s0)) (v28 + x3) (fun v29 => (xm_rd (No_starts s0) y2 (fun v30 => (xm_rd (Fi_features (No_fields s0)) (v30 + x3) (fun v31 => (if v29 = v31 then (ih (x3 + 1)) else (xm_p (Sum.inr (0 : Int32)))))))))))))))) i
theorem L_No_sameShape_49_s (y1 : Int32) (y2 : Int32) (s0 : S_No) (n i : Nat) (x3 : Int32) : L_No_sameShape_49 y1 y2 s0 n (i + 1) x3 = (xm_rd (No_sizes s0) y1 (fun v26 => (if v26 ≤ x3 then (xm_p (Sum.inl x3)) else (xm_rd (No_starts s0) y1 (fun v28 => (xm_rd (Fi_features (No_fields s0)) (v28 + x3) (fun v29 => (xm_rd (No_starts s0) y2 (fun v30 => (xm_rd (Fi_features (No_fields s0)) (v30 + x3) (fun v31 => (if v29 = v31 then (L_No_sameShape_49 y1 y2 s0 n i (x3 + 1)) else (xm_p (Sum.inr (0 : Int32))))))))))))))) := rfl
noncomputable def m_No_sameShape (n : Nat) (s0 : S_No) (p0 : Int32) (p1 : Int32) : MO (Int32) := (xm_rd (No_kinds s0) p0 (fun v17 => (xm_rd (No_kinds s0) p1 (fun v18 => (if v17 = v18 then (xm_rd (No_values s0) p0 (fun v20 => (xm_rd (No_values s0) p1 (fun v21 => (if v20 = v21 then (xm_rd (No_sizes s0) p0 (fun v23 => (xm_rd (No_sizes s0) p1 (fun v24 => (if v23 = v24 then (xm_b (L_No_sameShape_49 p0 p1 s0 n n (0 : Int32)) (fun o33 => Sum.elim (fun e38 => (xm_p (1 : Int32))) (fun z => xm_p z) o33)) else (xm_p (0 : Int32))))))) else (xm_p (0 : Int32))))))) else (xm_p (0 : Int32)))))))
set_option maxHeartbeats 4000000 in
set_option maxRecDepth 100000 in
theorem wl_No_sameShape_49 {X : XT} {l : Launch} {D : va_G} {cA : Nat → ClassId} {mc ms : Nat} (F : XF X l D cA b_No_sameShape 4 (some FieldType.boolean) R_No 0 0 mc ms) (n : Nat) (ob0 : Nat → Nat) (y1 : Int32) (y2 : Int32) (s0 : S_No)  (ad0 : Nat → Nat) : ∀ (i : Nat) (x3 : Int32)  (nc ns : Nat) (out : (Int32) ⊕ (Int32)) (k : KC), L_No_sameShape_49 y1 y2 s0 n i x3 = some (out, k) → nc + k.1 ≤ mc → ns + k.2 ≤ ms → (∀ e : Int32, out = Sum.inl e → ∀ ad : Nat → Nat, XW X 4 ((w_No cA ob0 ad0  s0)) (nc + k.1) (ns + k.2) 102 [(0, .ref (ob0 0)), (1, .int y1), (2, .int y2), (3, .int e)] []) → (∀ r : Int32, out = Sum.inr r → ∀ (ad : Nat → Nat) (pc : Nat) (lv : List (Nat × Value)), narrow .boolean (.int r) = .int r → decode b_No_sameShape pc = .ok (.ireturn, 1) → XW X 4 ((w_No cA ob0 ad0  s0)) (nc + k.1) (ns + k.2) pc lv [.int r]) → XW X 4 ((w_No cA ob0 ad0  s0)) nc ns 49 [(0, .ref (ob0 0)), (1, .int y1), (2, .int y2), (3, .int x3)] [] := by
  intro i
  induction i with
  | zero =>
    intro x3  nc ns out k hm
    replace hm : (none : MO ((Int32) ⊕ (Int32))) = some (out, k) := hm
    cases hm
  | succ i ih =>
    intro x3  nc ns out k hm hc hs KX KR
    rw [L_No_sameShape_49_s] at hm
    refine x_ws (ws' := [((ob0 0), .inr (3, [.ref (ad0 0), .ref (ad0 1), .ref (ad0 2), .ref (ad0 3), .ref (ad0 4), .ref (ad0 5), .ref (ad0 6), .ref (ad0 7), .int (No_top s0), .int (No_lowest s0), .int (No_alive s0), .int (No_marks s0), .ref (ob0 1), .ref (ob0 2)])), ((ad0 0), .inl (cA 0, (No_kinds s0).1, .inl (No_kinds s0).2)), ((ad0 1), .inl (cA 0, (No_values s0).1, .inl (No_values s0).2)), ((ad0 2), .inl (cA 0, (No_starts s0).1, .inl (No_starts s0).2)), ((ad0 3), .inl (cA 0, (No_sizes s0).1, .inl (No_sizes s0).2)), ((ad0 4), .inl (cA 0, (No_lead s0).1, .inl (No_lead s0).2)), ((ad0 5), .inl (cA 0, (No_bodies s0).1, .inl (No_bodies s0).2)), ((ad0 6), .inl (cA 0, (No_needed s0).1, .inl (No_needed s0).2)), ((ad0 7), .inl (cA 0, (No_marked s0).1, .inl (No_marked s0).2)), ((ob0 1), .inr (0, [.ref (ad0 8), .ref (ad0 9), .int (Fi_used (No_fields s0)), .ref (ad0 10), .ref (ad0 11), .int (Fi_nextUsed (No_fields s0))])), ((ad0 8), .inl (cA 0, (Fi_features (No_fields s0)).1, .inl (Fi_features (No_fields s0)).2)), ((ad0 9), .inl (cA 0, (Fi_parts (No_fields s0)).1, .inl (Fi_parts (No_fields s0)).2)), ((ad0 10), .inl (cA 0, (Fi_nextFeatures (No_fields s0)).1, .inl (Fi_nextFeatures (No_fields s0)).2)), ((ad0 11), .inl (cA 0, (Fi_nextParts (No_fields s0)).1, .inl (Fi_nextParts (No_fields s0)).2)), ((ob0 2), .inr (1, [.ref (ad0 12), .int (Ld_size (No_reached s0))])), ((ad0 12), .inl (cA 0, (Ld_row (No_reached s0)).1, .inl (Ld_row (No_reached s0)).2))]) rfl ?_
    refine x_iload_n F d_No_sameShape_49 3 rfl rfl ?_
    refine x_aload_n F d_No_sameShape_50 0 rfl rfl ?_
    refine x_get F ck_No hin_No 0 3 rfl (by decide) kw_123 rfl rfl d_No_sameShape_51 ?_
    refine x_iload_n F d_No_sameShape_54 1 rfl rfl ?_
    replace hm := xm_rd_some hm
    obtain ⟨v26, e_v26, b_v26, hm⟩ := hm
    refine x_iald (x := (No_sizes s0)) F 4 rfl e_v26 b_v26 d_No_sameShape_55 ?_
    refine x_icmp_ge F 102 d_No_sameShape_56 (by decide) (fun c27 => ?_) (fun c27 => ?_)
    · replace hm := xm_t hm c27
      replace hm := xm_p_some hm
      obtain ⟨eo, c_o, d_o⟩ := hm
      refine x_sub [0, 1, 2, 3, 4, 5, 6, 7, 8, 9, 10, 11, 12, 13, 14, 15] (by decide) ?_ (x_lv [0, 1, 2, 3] ?_ (x_cs (by omega) (by omega) (KX _ eo (fun _ => 0))))
      · rfl
      · rfl
    · replace hm := xm_f hm c27
      refine x_aload_n F d_No_sameShape_59 0 rfl rfl ?_
      refine x_get F ck_No hin_No 0 12 rfl (by decide) kw_147 rfl rfl d_No_sameShape_60 ?_
      refine x_getN F ck_Fi hin_Fi 9 0 rfl (by decide) kn_72 rfl rfl d_No_sameShape_63 ?_
      refine x_aload_n F d_No_sameShape_66 0 rfl rfl ?_
      refine x_get F ck_No hin_No 0 2 rfl (by decide) kw_120 rfl rfl d_No_sameShape_67 ?_
      refine x_iload_n F d_No_sameShape_70 1 rfl rfl ?_
      replace hm := xm_rd_some hm
      obtain ⟨v28, e_v28, b_v28, hm⟩ := hm
      refine x_iald (x := (No_starts s0)) F 3 rfl e_v28 b_v28 d_No_sameShape_71 ?_
      refine x_iload_n F d_No_sameShape_72 3 rfl rfl ?_
      refine x_iadd F d_No_sameShape_73 ?_
      replace hm := xm_rd_some hm
      obtain ⟨v29, e_v29, b_v29, hm⟩ := hm
      refine x_iald (x := (Fi_features (No_fields s0))) F 10 rfl e_v29 b_v29 d_No_sameShape_74 ?_
      refine x_aload_n F d_No_sameShape_75 0 rfl rfl ?_
      refine x_get F ck_No hin_No 0 12 rfl (by decide) kw_147 rfl rfl d_No_sameShape_76 ?_
      refine x_getN F ck_Fi hin_Fi 9 0 rfl (by decide) kn_72 rfl rfl d_No_sameShape_79 ?_
      refine x_aload_n F d_No_sameShape_82 0 rfl rfl ?_
      refine x_get F ck_No hin_No 0 2 rfl (by decide) kw_120 rfl rfl d_No_sameShape_83 ?_
      refine x_iload_n F d_No_sameShape_86 2 rfl rfl ?_
      replace hm := xm_rd_some hm
      obtain ⟨v30, e_v30, b_v30, hm⟩ := hm
      refine x_iald (x := (No_starts s0)) F 3 rfl e_v30 b_v30 d_No_sameShape_87 ?_
      refine x_iload_n F d_No_sameShape_88 3 rfl rfl ?_
      refine x_iadd F d_No_sameShape_89 ?_
      replace hm := xm_rd_some hm
      obtain ⟨v31, e_v31, b_v31, hm⟩ := hm
      refine x_iald (x := (Fi_features (No_fields s0))) F 10 rfl e_v31 b_v31 d_No_sameShape_90 ?_
      refine x_icmp_eq F 96 d_No_sameShape_91 (by decide) (fun c32 => ?_) (fun c32 => ?_)
      · replace hm := xm_t hm c32
        refine x_iinc (v := (x3 + 1)) (lv' := [(3, .int (x3 + 1)), (0, .ref (ob0 0)), (1, .int y1), (2, .int y2)]) F d_No_sameShape_96 3 rfl rfl (by decide) rfl ?_
        refine x_goto F 49 d_No_sameShape_99 (by decide) ?_
        refine x_sub [0, 1, 2, 3, 4, 5, 6, 7, 8, 9, 10, 11, 12, 13, 14, 15] (by decide) ?_ (x_lv [1, 2, 3, 0] ?_ (ih (x3 + 1)  _ _ out k hm (by omega) (by omega) (fun e he ad => x_cs (by omega) (by omega) (KX e he ad)) (fun r hr ad pc lv hn hd => x_cs (by omega) (by omega) (KR r hr ad pc lv hn hd))))
        · rfl
        · rfl
      · replace hm := xm_f hm c32
        refine x_iconst (v := (0 : Int32)) F d_No_sameShape_94 (by decide) ?_
        replace hm := xm_p_some hm
        obtain ⟨eo, c_o, d_o⟩ := hm
        refine x_sub [0, 1, 2, 3, 4, 5, 6, 7, 8, 9, 10, 11, 12, 13, 14, 15] (by decide) ?_ (x_cs (by omega) (by omega) (KR _ eo (fun _ => 0) _ _ xz_0 d_No_sameShape_95))
        rfl
set_option maxHeartbeats 4000000 in
set_option maxRecDepth 100000 in
theorem c_No_sameShape (l : Launch) (D : va_G) (cA : Nat → ClassId) (n : Nat) (ob0 ad0 : Nat → Nat) (s0 : S_No) (p0 : Int32) (p1 : Int32) (out : Int32) (k : KC) (hm : m_No_sameShape n s0 p0 p1 = some (out, k)) : XM l D cA y_No_sameShape b_No_sameShape 4 (some FieldType.boolean) 0 0 [.ref (ob0 0), .int p0, .int p1] ((w_No cA ob0 ad0  s0)) k (fun _ => some (.int out)) (fun ad => (w_No cA ob0 ad0  s0)) := by
  refine x_met (cc := b_No_sameShape) (nL := 4) (ret := (some FieldType.boolean)) R_No (by decide) (Nat.le_of_ble_eq_true rfl) rfl (fun X F I E => ?_)
  unfold m_No_sameShape at hm
  refine x_nf2 (ws' := [((ob0 0), .inr (3, [.ref (ad0 0), .ref (ad0 1), .ref (ad0 2), .ref (ad0 3), .ref (ad0 4), .ref (ad0 5), .ref (ad0 6), .ref (ad0 7), .int (No_top s0), .int (No_lowest s0), .int (No_alive s0), .int (No_marks s0), .ref (ob0 1), .ref (ob0 2)])), ((ad0 0), .inl (cA 0, (No_kinds s0).1, .inl (No_kinds s0).2)), ((ad0 1), .inl (cA 0, (No_values s0).1, .inl (No_values s0).2)), ((ad0 2), .inl (cA 0, (No_starts s0).1, .inl (No_starts s0).2)), ((ad0 3), .inl (cA 0, (No_sizes s0).1, .inl (No_sizes s0).2)), ((ad0 4), .inl (cA 0, (No_lead s0).1, .inl (No_lead s0).2)), ((ad0 5), .inl (cA 0, (No_bodies s0).1, .inl (No_bodies s0).2)), ((ad0 6), .inl (cA 0, (No_needed s0).1, .inl (No_needed s0).2)), ((ad0 7), .inl (cA 0, (No_marked s0).1, .inl (No_marked s0).2)), ((ob0 1), .inr (0, [.ref (ad0 8), .ref (ad0 9), .int (Fi_used (No_fields s0)), .ref (ad0 10), .ref (ad0 11), .int (Fi_nextUsed (No_fields s0))])), ((ad0 8), .inl (cA 0, (Fi_features (No_fields s0)).1, .inl (Fi_features (No_fields s0)).2)), ((ad0 9), .inl (cA 0, (Fi_parts (No_fields s0)).1, .inl (Fi_parts (No_fields s0)).2)), ((ad0 10), .inl (cA 0, (Fi_nextFeatures (No_fields s0)).1, .inl (Fi_nextFeatures (No_fields s0)).2)), ((ad0 11), .inl (cA 0, (Fi_nextParts (No_fields s0)).1, .inl (Fi_nextParts (No_fields s0)).2)), ((ob0 2), .inr (1, [.ref (ad0 12), .int (Ld_size (No_reached s0))])), ((ad0 12), .inl (cA 0, (Ld_row (No_reached s0)).1, .inl (Ld_row (No_reached s0)).2))]) (lv' := [(0, .ref (ob0 0)), (1, .int p0), (2, .int p1)]) rfl rfl ?_
  refine x_aload_n F d_No_sameShape_0 0 rfl rfl ?_
  refine x_get F ck_No hin_No 0 0 rfl (by decide) kw_114 rfl rfl d_No_sameShape_1 ?_
  refine x_iload_n F d_No_sameShape_4 1 rfl rfl ?_
  replace hm := xm_rd_some hm
  obtain ⟨v17, e_v17, b_v17, hm⟩ := hm
  refine x_iald (x := (No_kinds s0)) F 1 rfl e_v17 b_v17 d_No_sameShape_5 ?_
  refine x_aload_n F d_No_sameShape_6 0 rfl rfl ?_
  refine x_get F ck_No hin_No 0 0 rfl (by decide) kw_114 rfl rfl d_No_sameShape_7 ?_
  refine x_iload_n F d_No_sameShape_10 2 rfl rfl ?_
  replace hm := xm_rd_some hm
  obtain ⟨v18, e_v18, b_v18, hm⟩ := hm
  refine x_iald (x := (No_kinds s0)) F 1 rfl e_v18 b_v18 d_No_sameShape_11 ?_
  refine x_icmp_ne F 45 d_No_sameShape_12 (by decide) (fun c19 => ?_) (fun c19 => ?_)
  · replace hm := xm_f hm c19
    refine x_iconst (v := (0 : Int32)) F d_No_sameShape_45 (by decide) ?_
    replace hm := xm_p_some hm
    obtain ⟨eo, c_o, d_o⟩ := hm
    subst eo
    refine x_sub [0, 1, 2, 3, 4, 5, 6, 7, 8, 9, 10, 11, 12, 13, 14, 15] (by decide) ?_ (xe_i E (fun _ => 0) (by omega) (by omega) rfl xz_0 d_No_sameShape_46)
    rfl
  · replace hm := xm_t hm c19
    refine x_aload_n F d_No_sameShape_15 0 rfl rfl ?_
    refine x_get F ck_No hin_No 0 1 rfl (by decide) kw_118 rfl rfl d_No_sameShape_16 ?_
    refine x_iload_n F d_No_sameShape_19 1 rfl rfl ?_
    replace hm := xm_rd_some hm
    obtain ⟨v20, e_v20, b_v20, hm⟩ := hm
    refine x_iald (x := (No_values s0)) F 2 rfl e_v20 b_v20 d_No_sameShape_20 ?_
    refine x_aload_n F d_No_sameShape_21 0 rfl rfl ?_
    refine x_get F ck_No hin_No 0 1 rfl (by decide) kw_118 rfl rfl d_No_sameShape_22 ?_
    refine x_iload_n F d_No_sameShape_25 2 rfl rfl ?_
    replace hm := xm_rd_some hm
    obtain ⟨v21, e_v21, b_v21, hm⟩ := hm
    refine x_iald (x := (No_values s0)) F 2 rfl e_v21 b_v21 d_No_sameShape_26 ?_
    refine x_icmp_ne F 45 d_No_sameShape_27 (by decide) (fun c22 => ?_) (fun c22 => ?_)
    · replace hm := xm_f hm c22
      refine x_iconst (v := (0 : Int32)) F d_No_sameShape_45 (by decide) ?_
      replace hm := xm_p_some hm
      obtain ⟨eo, c_o, d_o⟩ := hm
      subst eo
      refine x_sub [0, 1, 2, 3, 4, 5, 6, 7, 8, 9, 10, 11, 12, 13, 14, 15] (by decide) ?_ (xe_i E (fun _ => 0) (by omega) (by omega) rfl xz_0 d_No_sameShape_46)
      rfl
    · replace hm := xm_t hm c22
      refine x_aload_n F d_No_sameShape_30 0 rfl rfl ?_
      refine x_get F ck_No hin_No 0 3 rfl (by decide) kw_123 rfl rfl d_No_sameShape_31 ?_
      refine x_iload_n F d_No_sameShape_34 1 rfl rfl ?_
      replace hm := xm_rd_some hm
      obtain ⟨v23, e_v23, b_v23, hm⟩ := hm
      refine x_iald (x := (No_sizes s0)) F 4 rfl e_v23 b_v23 d_No_sameShape_35 ?_
      refine x_aload_n F d_No_sameShape_36 0 rfl rfl ?_
      refine x_get F ck_No hin_No 0 3 rfl (by decide) kw_123 rfl rfl d_No_sameShape_37 ?_
      refine x_iload_n F d_No_sameShape_40 2 rfl rfl ?_
      replace hm := xm_rd_some hm
      obtain ⟨v24, e_v24, b_v24, hm⟩ := hm
      refine x_iald (x := (No_sizes s0)) F 4 rfl e_v24 b_v24 d_No_sameShape_41 ?_
      refine x_icmp_eq F 47 d_No_sameShape_42 (by decide) (fun c25 => ?_) (fun c25 => ?_)
      · replace hm := xm_t hm c25
        refine x_iconst (v := (0 : Int32)) F d_No_sameShape_47 (by decide) ?_
        refine x_istore_n (lv' := [(3, .int (0 : Int32)), (0, .ref (ob0 0)), (1, .int p0), (2, .int p1)]) F d_No_sameShape_48 rfl (by decide) rfl ?_
        replace hm := xm_b_some hm
        obtain ⟨o33, k34, k35, h36, hm, c_o33, d_o33⟩ := hm
        refine x_sub [0, 1, 2, 3, 4, 5, 6, 7, 8, 9, 10, 11, 12, 13, 14, 15] (by decide) ?_ (x_lv [1, 2, 3, 0] ?_ (wl_No_sameShape_49 F n ob0 p0 p1 s0 ad0 n (0 : Int32)  _ _ o33 k34 h36 (by omega) (by omega) (fun e38 h40 ad37 => ?_) (fun r39 h40 ad37 pc lv hn hd => ?_)))
        · rfl
        · rfl
        · subst h40
          replace hm := xm_inl hm
          refine x_nf2 (ws' := [((ob0 0), .inr (3, [.ref (ad0 0), .ref (ad0 1), .ref (ad0 2), .ref (ad0 3), .ref (ad0 4), .ref (ad0 5), .ref (ad0 6), .ref (ad0 7), .int (No_top s0), .int (No_lowest s0), .int (No_alive s0), .int (No_marks s0), .ref (ob0 1), .ref (ob0 2)])), ((ad0 0), .inl (cA 0, (No_kinds s0).1, .inl (No_kinds s0).2)), ((ad0 1), .inl (cA 0, (No_values s0).1, .inl (No_values s0).2)), ((ad0 2), .inl (cA 0, (No_starts s0).1, .inl (No_starts s0).2)), ((ad0 3), .inl (cA 0, (No_sizes s0).1, .inl (No_sizes s0).2)), ((ad0 4), .inl (cA 0, (No_lead s0).1, .inl (No_lead s0).2)), ((ad0 5), .inl (cA 0, (No_bodies s0).1, .inl (No_bodies s0).2)), ((ad0 6), .inl (cA 0, (No_needed s0).1, .inl (No_needed s0).2)), ((ad0 7), .inl (cA 0, (No_marked s0).1, .inl (No_marked s0).2)), ((ob0 1), .inr (0, [.ref (ad0 8), .ref (ad0 9), .int (Fi_used (No_fields s0)), .ref (ad0 10), .ref (ad0 11), .int (Fi_nextUsed (No_fields s0))])), ((ad0 8), .inl (cA 0, (Fi_features (No_fields s0)).1, .inl (Fi_features (No_fields s0)).2)), ((ad0 9), .inl (cA 0, (Fi_parts (No_fields s0)).1, .inl (Fi_parts (No_fields s0)).2)), ((ad0 10), .inl (cA 0, (Fi_nextFeatures (No_fields s0)).1, .inl (Fi_nextFeatures (No_fields s0)).2)), ((ad0 11), .inl (cA 0, (Fi_nextParts (No_fields s0)).1, .inl (Fi_nextParts (No_fields s0)).2)), ((ob0 2), .inr (1, [.ref (ad0 12), .int (Ld_size (No_reached s0))])), ((ad0 12), .inl (cA 0, (Ld_row (No_reached s0)).1, .inl (Ld_row (No_reached s0)).2))]) (lv' := [(0, .ref (ob0 0)), (1, .int p0), (2, .int p1), (3, .int e38)]) rfl rfl ?_
          refine x_iconst (v := (1 : Int32)) F d_No_sameShape_102 (by decide) ?_
          replace hm := xm_p_some hm
          obtain ⟨eo, c_o, d_o⟩ := hm
          subst eo
          refine x_sub [0, 1, 2, 3, 4, 5, 6, 7, 8, 9, 10, 11, 12, 13, 14, 15] (by decide) ?_ (xe_i E (fun _ => 0) (by omega) (by omega) rfl xz_1 d_No_sameShape_103)
          rfl
        · subst h40
          replace hm := xm_inr hm
          replace hm := xm_p_some hm
          obtain ⟨eo, c_o, d_o⟩ := hm
          subst eo
          exact xe_i E (fun _ => 0) (by omega) (by omega) rfl hn hd
      · replace hm := xm_f hm c25
        refine x_iconst (v := (0 : Int32)) F d_No_sameShape_45 (by decide) ?_
        replace hm := xm_p_some hm
        obtain ⟨eo, c_o, d_o⟩ := hm
        subst eo
        refine x_sub [0, 1, 2, 3, 4, 5, 6, 7, 8, 9, 10, 11, 12, 13, 14, 15] (by decide) ?_ (xe_i E (fun _ => 0) (by omega) (by omega) rfl xz_0 d_No_sameShape_46)
        rfl

noncomputable def L_No_variableLeaders_4 (s0 : S_No) (n i : Nat) : Int32 → Int32 → MO (Int32 × Int32) := Nat.rec (motive := fun _ => Int32 → Int32 → MO (Int32 × Int32)) (fun _ _ => none) (fun _ ih x1 x2 => (if (No_top s0) ≤ x2 then (xm_p ((x1, x2))) else (xm_b (m_No_has n s0 x2) (fun o17 => (if o17 = 0 then (ih x1 (x2 + 1)) else (xm_rd (No_lead s0) x2 (fun v23 => (if v23 = x2 then (xm_b (m_No_kindOf n s0 x2) (fun o25 => (if o25 = 0 then (ih (x1 + 1) (x2 + 1)) else (ih x1 (x2 + 1))))) else (ih x1 (x2 + 1)))))))))) i
theorem L_No_variableLeaders_4_s (s0 : S_No) (n i : Nat) (x1 : Int32) (x2 : Int32) : L_No_variableLeaders_4 s0 n (i + 1) x1 x2 = (if (No_top s0) ≤ x2 then (xm_p ((x1, x2))) else (xm_b (m_No_has n s0 x2) (fun o17 => (if o17 = 0 then (L_No_variableLeaders_4 s0 n i x1 (x2 + 1)) else (xm_rd (No_lead s0) x2 (fun v23 => (if v23 = x2 then (xm_b (m_No_kindOf n s0 x2) (fun o25 => (if o25 = 0 then (L_No_variableLeaders_4 s0 n i (x1 + 1) (x2 + 1)) else (L_No_variableLeaders_4 s0 n i x1 (x2 + 1))))) else (L_No_variableLeaders_4 s0 n i x1 (x2 + 1))))))))) := rfl
noncomputable def m_No_variableLeaders (n : Nat) (s0 : S_No)  : MO (Int32) := (xm_b (L_No_variableLeaders_4 s0 n n (0 : Int32) (0 : Int32)) (fun o31 => (xm_p (o31.1))))
set_option maxHeartbeats 4000000 in
set_option maxRecDepth 100000 in
theorem wl_No_variableLeaders_4 {X : XT} {l : Launch} {D : va_G} {cA : Nat → ClassId} {mc ms : Nat} (F : XF X l D cA b_No_variableLeaders 3 (some FieldType.int) R_No 1 21 mc ms) (n : Nat) (ob0 : Nat → Nat) (s0 : S_No)  (ad0 : Nat → Nat) : ∀ (i : Nat) (x1 : Int32) (x2 : Int32)  (nc ns : Nat) (out : Int32 × Int32) (k : KC), L_No_variableLeaders_4 s0 n i x1 x2 = some (out, k) → nc + k.1 ≤ mc → ns + k.2 ≤ ms → (∀ ad : Nat → Nat, XW X 3 ((w_No cA ob0 ad0  s0)) (nc + k.1) (ns + k.2) 47 [(0, .ref (ob0 0)), (1, .int (out.1)), (2, .int (out.2))] []) → XW X 3 ((w_No cA ob0 ad0  s0)) nc ns 4 [(0, .ref (ob0 0)), (1, .int x1), (2, .int x2)] [] := by
  intro i
  induction i with
  | zero =>
    intro x1 x2  nc ns out k hm
    replace hm : (none : MO (Int32 × Int32)) = some (out, k) := hm
    cases hm
  | succ i ih =>
    intro x1 x2  nc ns out k hm hc hs KX
    rw [L_No_variableLeaders_4_s] at hm
    refine x_ws (ws' := [((ob0 0), .inr (3, [.ref (ad0 0), .ref (ad0 1), .ref (ad0 2), .ref (ad0 3), .ref (ad0 4), .ref (ad0 5), .ref (ad0 6), .ref (ad0 7), .int (No_top s0), .int (No_lowest s0), .int (No_alive s0), .int (No_marks s0), .ref (ob0 1), .ref (ob0 2)])), ((ad0 0), .inl (cA 0, (No_kinds s0).1, .inl (No_kinds s0).2)), ((ad0 1), .inl (cA 0, (No_values s0).1, .inl (No_values s0).2)), ((ad0 2), .inl (cA 0, (No_starts s0).1, .inl (No_starts s0).2)), ((ad0 3), .inl (cA 0, (No_sizes s0).1, .inl (No_sizes s0).2)), ((ad0 4), .inl (cA 0, (No_lead s0).1, .inl (No_lead s0).2)), ((ad0 5), .inl (cA 0, (No_bodies s0).1, .inl (No_bodies s0).2)), ((ad0 6), .inl (cA 0, (No_needed s0).1, .inl (No_needed s0).2)), ((ad0 7), .inl (cA 0, (No_marked s0).1, .inl (No_marked s0).2)), ((ob0 1), .inr (0, [.ref (ad0 8), .ref (ad0 9), .int (Fi_used (No_fields s0)), .ref (ad0 10), .ref (ad0 11), .int (Fi_nextUsed (No_fields s0))])), ((ad0 8), .inl (cA 0, (Fi_features (No_fields s0)).1, .inl (Fi_features (No_fields s0)).2)), ((ad0 9), .inl (cA 0, (Fi_parts (No_fields s0)).1, .inl (Fi_parts (No_fields s0)).2)), ((ad0 10), .inl (cA 0, (Fi_nextFeatures (No_fields s0)).1, .inl (Fi_nextFeatures (No_fields s0)).2)), ((ad0 11), .inl (cA 0, (Fi_nextParts (No_fields s0)).1, .inl (Fi_nextParts (No_fields s0)).2)), ((ob0 2), .inr (1, [.ref (ad0 12), .int (Ld_size (No_reached s0))])), ((ad0 12), .inl (cA 0, (Ld_row (No_reached s0)).1, .inl (Ld_row (No_reached s0)).2))]) rfl ?_
    refine x_iload_n F d_No_variableLeaders_4 2 rfl rfl ?_
    refine x_aload_n F d_No_variableLeaders_5 0 rfl rfl ?_
    refine x_get F ck_No hin_No 0 8 rfl (by decide) kw_139 rfl rfl d_No_variableLeaders_6 ?_
    refine x_icmp_ge F 47 d_No_variableLeaders_9 (by decide) (fun c16 => ?_) (fun c16 => ?_)
    · replace hm := xm_t hm c16
      replace hm := xm_p_some hm
      obtain ⟨eo, c_o, d_o⟩ := hm
      subst eo
      refine x_sub [0, 1, 2, 3, 4, 5, 6, 7, 8, 9, 10, 11, 12, 13, 14, 15] (by decide) ?_ (x_lv [0, 1, 2] ?_ (x_cs (by omega) (by omega) (KX (fun _ => 0))))
      · rfl
      · rfl
    · replace hm := xm_f hm c16
      refine x_aload_n F d_No_variableLeaders_12 0 rfl rfl ?_
      refine x_iload_n F d_No_variableLeaders_13 2 rfl rfl ?_
      replace hm := xm_b_some hm
      obtain ⟨o17, k18, k19, h20, hm, c_o17, d_o17⟩ := hm
      refine x_callV (n := 1) (C := R_No) (wr := []) F (c_No_has l D cA n ob0 ad0 s0 x2 o17 k18 h20) kw_363 kw_577 kw_361 kw_362 kw_40 ⟨rfl, by decide, by decide, by decide +kernel⟩ rfl (by decide) (by decide) (ci := 3) rfl rfl 0 rfl [0, 1, 2, 3, 4, 5, 6, 7, 8, 9, 10, 11, 12, 13, 14, 15] [] rfl rfl (by decide) (by decide) (by decide) rfl (Nat.le_of_ble_eq_true rfl) (by omega) (by omega) d_No_variableLeaders_14 (fun ad21 => ?_)
      refine x_nf (ws' := [((ob0 0), .inr (3, [.ref (ad0 0), .ref (ad0 1), .ref (ad0 2), .ref (ad0 3), .ref (ad0 4), .ref (ad0 5), .ref (ad0 6), .ref (ad0 7), .int (No_top s0), .int (No_lowest s0), .int (No_alive s0), .int (No_marks s0), .ref (ob0 1), .ref (ob0 2)])), ((ad0 0), .inl (cA 0, (No_kinds s0).1, .inl (No_kinds s0).2)), ((ad0 1), .inl (cA 0, (No_values s0).1, .inl (No_values s0).2)), ((ad0 2), .inl (cA 0, (No_starts s0).1, .inl (No_starts s0).2)), ((ad0 3), .inl (cA 0, (No_sizes s0).1, .inl (No_sizes s0).2)), ((ad0 4), .inl (cA 0, (No_lead s0).1, .inl (No_lead s0).2)), ((ad0 5), .inl (cA 0, (No_bodies s0).1, .inl (No_bodies s0).2)), ((ad0 6), .inl (cA 0, (No_needed s0).1, .inl (No_needed s0).2)), ((ad0 7), .inl (cA 0, (No_marked s0).1, .inl (No_marked s0).2)), ((ob0 1), .inr (0, [.ref (ad0 8), .ref (ad0 9), .int (Fi_used (No_fields s0)), .ref (ad0 10), .ref (ad0 11), .int (Fi_nextUsed (No_fields s0))])), ((ad0 8), .inl (cA 0, (Fi_features (No_fields s0)).1, .inl (Fi_features (No_fields s0)).2)), ((ad0 9), .inl (cA 0, (Fi_parts (No_fields s0)).1, .inl (Fi_parts (No_fields s0)).2)), ((ad0 10), .inl (cA 0, (Fi_nextFeatures (No_fields s0)).1, .inl (Fi_nextFeatures (No_fields s0)).2)), ((ad0 11), .inl (cA 0, (Fi_nextParts (No_fields s0)).1, .inl (Fi_nextParts (No_fields s0)).2)), ((ob0 2), .inr (1, [.ref (ad0 12), .int (Ld_size (No_reached s0))])), ((ad0 12), .inl (cA 0, (Ld_row (No_reached s0)).1, .inl (Ld_row (No_reached s0)).2))]) (st' := [.int o17]) rfl rfl ?_
      refine x_if_eq F 41 d_No_variableLeaders_17 (by decide) (fun c22 => ?_) (fun c22 => ?_)
      · replace hm := xm_t hm c22
        refine x_iinc (v := (x2 + 1)) (lv' := [(2, .int (x2 + 1)), (0, .ref (ob0 0)), (1, .int x1)]) F d_No_variableLeaders_41 2 rfl rfl (by decide) rfl ?_
        refine x_goto F 4 d_No_variableLeaders_44 (by decide) ?_
        refine x_sub [0, 1, 2, 3, 4, 5, 6, 7, 8, 9, 10, 11, 12, 13, 14, 15] (by decide) ?_ (x_lv [1, 2, 0] ?_ (ih x1 (x2 + 1)  _ _ out k19 hm (by omega) (by omega) (fun ad => x_cs (by omega) (by omega) (KX ad))))
        · rfl
        · rfl
      · replace hm := xm_f hm c22
        refine x_aload_n F d_No_variableLeaders_20 0 rfl rfl ?_
        refine x_get F ck_No hin_No 0 4 rfl (by decide) kw_127 rfl rfl d_No_variableLeaders_21 ?_
        refine x_iload_n F d_No_variableLeaders_24 2 rfl rfl ?_
        replace hm := xm_rd_some hm
        obtain ⟨v23, e_v23, b_v23, hm⟩ := hm
        refine x_iald (x := (No_lead s0)) F 5 rfl e_v23 b_v23 d_No_variableLeaders_25 ?_
        refine x_iload_n F d_No_variableLeaders_26 2 rfl rfl ?_
        refine x_icmp_ne F 41 d_No_variableLeaders_27 (by decide) (fun c24 => ?_) (fun c24 => ?_)
        · replace hm := xm_f hm c24
          refine x_iinc (v := (x2 + 1)) (lv' := [(2, .int (x2 + 1)), (0, .ref (ob0 0)), (1, .int x1)]) F d_No_variableLeaders_41 2 rfl rfl (by decide) rfl ?_
          refine x_goto F 4 d_No_variableLeaders_44 (by decide) ?_
          refine x_sub [0, 1, 2, 3, 4, 5, 6, 7, 8, 9, 10, 11, 12, 13, 14, 15] (by decide) ?_ (x_lv [1, 2, 0] ?_ (ih x1 (x2 + 1)  _ _ out k19 hm (by omega) (by omega) (fun ad => x_cs (by omega) (by omega) (KX ad))))
          · rfl
          · rfl
        · replace hm := xm_t hm c24
          refine x_aload_n F d_No_variableLeaders_30 0 rfl rfl ?_
          refine x_iload_n F d_No_variableLeaders_31 2 rfl rfl ?_
          replace hm := xm_b_some hm
          obtain ⟨o25, k26, k27, h28, hm, c_o25, d_o25⟩ := hm
          refine x_callV (n := 1) (C := R_No) (wr := []) F (c_No_kindOf l D cA n ob0 ad0 s0 x2 o25 k26 h28) kw_487 kw_484 kw_485 kw_486 kw_40 ⟨rfl, by decide, by decide, by decide +kernel⟩ rfl (by decide) (by decide) (ci := 3) rfl rfl 0 rfl [0, 1, 2, 3, 4, 5, 6, 7, 8, 9, 10, 11, 12, 13, 14, 15] [] rfl rfl (by decide) (by decide) (by decide) rfl (Nat.le_of_ble_eq_true rfl) (by omega) (by omega) d_No_variableLeaders_32 (fun ad29 => ?_)
          refine x_nf (ws' := [((ob0 0), .inr (3, [.ref (ad0 0), .ref (ad0 1), .ref (ad0 2), .ref (ad0 3), .ref (ad0 4), .ref (ad0 5), .ref (ad0 6), .ref (ad0 7), .int (No_top s0), .int (No_lowest s0), .int (No_alive s0), .int (No_marks s0), .ref (ob0 1), .ref (ob0 2)])), ((ad0 0), .inl (cA 0, (No_kinds s0).1, .inl (No_kinds s0).2)), ((ad0 1), .inl (cA 0, (No_values s0).1, .inl (No_values s0).2)), ((ad0 2), .inl (cA 0, (No_starts s0).1, .inl (No_starts s0).2)), ((ad0 3), .inl (cA 0, (No_sizes s0).1, .inl (No_sizes s0).2)), ((ad0 4), .inl (cA 0, (No_lead s0).1, .inl (No_lead s0).2)), ((ad0 5), .inl (cA 0, (No_bodies s0).1, .inl (No_bodies s0).2)), ((ad0 6), .inl (cA 0, (No_needed s0).1, .inl (No_needed s0).2)), ((ad0 7), .inl (cA 0, (No_marked s0).1, .inl (No_marked s0).2)), ((ob0 1), .inr (0, [.ref (ad0 8), .ref (ad0 9), .int (Fi_used (No_fields s0)), .ref (ad0 10), .ref (ad0 11), .int (Fi_nextUsed (No_fields s0))])), ((ad0 8), .inl (cA 0, (Fi_features (No_fields s0)).1, .inl (Fi_features (No_fields s0)).2)), ((ad0 9), .inl (cA 0, (Fi_parts (No_fields s0)).1, .inl (Fi_parts (No_fields s0)).2)), ((ad0 10), .inl (cA 0, (Fi_nextFeatures (No_fields s0)).1, .inl (Fi_nextFeatures (No_fields s0)).2)), ((ad0 11), .inl (cA 0, (Fi_nextParts (No_fields s0)).1, .inl (Fi_nextParts (No_fields s0)).2)), ((ob0 2), .inr (1, [.ref (ad0 12), .int (Ld_size (No_reached s0))])), ((ad0 12), .inl (cA 0, (Ld_row (No_reached s0)).1, .inl (Ld_row (No_reached s0)).2))]) (st' := [.int o25]) rfl rfl ?_
          refine x_if_ne F 41 d_No_variableLeaders_35 (by decide) (fun c30 => ?_) (fun c30 => ?_)
          · replace hm := xm_f hm c30
            refine x_iinc (v := (x2 + 1)) (lv' := [(2, .int (x2 + 1)), (0, .ref (ob0 0)), (1, .int x1)]) F d_No_variableLeaders_41 2 rfl rfl (by decide) rfl ?_
            refine x_goto F 4 d_No_variableLeaders_44 (by decide) ?_
            refine x_sub [0, 1, 2, 3, 4, 5, 6, 7, 8, 9, 10, 11, 12, 13, 14, 15] (by decide) ?_ (x_lv [1, 2, 0] ?_ (ih x1 (x2 + 1)  _ _ out k27 hm (by omega) (by omega) (fun ad => x_cs (by omega) (by omega) (KX ad))))
            · rfl
            · rfl
          · replace hm := xm_t hm c30
            refine x_iinc (v := (x1 + 1)) (lv' := [(1, .int (x1 + 1)), (0, .ref (ob0 0)), (2, .int x2)]) F d_No_variableLeaders_38 1 rfl rfl (by decide) rfl ?_
            refine x_iinc (v := (x2 + 1)) (lv' := [(2, .int (x2 + 1)), (1, .int (x1 + 1)), (0, .ref (ob0 0))]) F d_No_variableLeaders_41 2 rfl rfl (by decide) rfl ?_
            refine x_goto F 4 d_No_variableLeaders_44 (by decide) ?_
            refine x_sub [0, 1, 2, 3, 4, 5, 6, 7, 8, 9, 10, 11, 12, 13, 14, 15] (by decide) ?_ (x_lv [2, 1, 0] ?_ (ih (x1 + 1) (x2 + 1)  _ _ out k27 hm (by omega) (by omega) (fun ad => x_cs (by omega) (by omega) (KX ad))))
            · rfl
            · rfl
set_option maxHeartbeats 4000000 in
set_option maxRecDepth 100000 in
theorem c_No_variableLeaders (l : Launch) (D : va_G) (cA : Nat → ClassId) (n : Nat) (ob0 ad0 : Nat → Nat) (s0 : S_No)  (out : Int32) (k : KC) (hm : m_No_variableLeaders n s0  = some (out, k)) : XM l D cA y_No_variableLeaders b_No_variableLeaders 3 (some FieldType.int) 1 21 [.ref (ob0 0)] ((w_No cA ob0 ad0  s0)) k (fun _ => some (.int out)) (fun ad => (w_No cA ob0 ad0  s0)) := by
  refine x_met (cc := b_No_variableLeaders) (nL := 3) (ret := (some FieldType.int)) R_No (by decide) (Nat.le_of_ble_eq_true rfl) rfl (fun X F I E => ?_)
  unfold m_No_variableLeaders at hm
  refine x_nf2 (ws' := [((ob0 0), .inr (3, [.ref (ad0 0), .ref (ad0 1), .ref (ad0 2), .ref (ad0 3), .ref (ad0 4), .ref (ad0 5), .ref (ad0 6), .ref (ad0 7), .int (No_top s0), .int (No_lowest s0), .int (No_alive s0), .int (No_marks s0), .ref (ob0 1), .ref (ob0 2)])), ((ad0 0), .inl (cA 0, (No_kinds s0).1, .inl (No_kinds s0).2)), ((ad0 1), .inl (cA 0, (No_values s0).1, .inl (No_values s0).2)), ((ad0 2), .inl (cA 0, (No_starts s0).1, .inl (No_starts s0).2)), ((ad0 3), .inl (cA 0, (No_sizes s0).1, .inl (No_sizes s0).2)), ((ad0 4), .inl (cA 0, (No_lead s0).1, .inl (No_lead s0).2)), ((ad0 5), .inl (cA 0, (No_bodies s0).1, .inl (No_bodies s0).2)), ((ad0 6), .inl (cA 0, (No_needed s0).1, .inl (No_needed s0).2)), ((ad0 7), .inl (cA 0, (No_marked s0).1, .inl (No_marked s0).2)), ((ob0 1), .inr (0, [.ref (ad0 8), .ref (ad0 9), .int (Fi_used (No_fields s0)), .ref (ad0 10), .ref (ad0 11), .int (Fi_nextUsed (No_fields s0))])), ((ad0 8), .inl (cA 0, (Fi_features (No_fields s0)).1, .inl (Fi_features (No_fields s0)).2)), ((ad0 9), .inl (cA 0, (Fi_parts (No_fields s0)).1, .inl (Fi_parts (No_fields s0)).2)), ((ad0 10), .inl (cA 0, (Fi_nextFeatures (No_fields s0)).1, .inl (Fi_nextFeatures (No_fields s0)).2)), ((ad0 11), .inl (cA 0, (Fi_nextParts (No_fields s0)).1, .inl (Fi_nextParts (No_fields s0)).2)), ((ob0 2), .inr (1, [.ref (ad0 12), .int (Ld_size (No_reached s0))])), ((ad0 12), .inl (cA 0, (Ld_row (No_reached s0)).1, .inl (Ld_row (No_reached s0)).2))]) (lv' := [(0, .ref (ob0 0))]) rfl rfl ?_
  refine x_iconst (v := (0 : Int32)) F d_No_variableLeaders_0 (by decide) ?_
  refine x_istore_n (lv' := [(1, .int (0 : Int32)), (0, .ref (ob0 0))]) F d_No_variableLeaders_1 rfl (by decide) rfl ?_
  refine x_iconst (v := (0 : Int32)) F d_No_variableLeaders_2 (by decide) ?_
  refine x_istore_n (lv' := [(2, .int (0 : Int32)), (1, .int (0 : Int32)), (0, .ref (ob0 0))]) F d_No_variableLeaders_3 rfl (by decide) rfl ?_
  replace hm := xm_b_some hm
  obtain ⟨o31, k32, k33, h34, hm, c_o31, d_o31⟩ := hm
  refine x_sub [0, 1, 2, 3, 4, 5, 6, 7, 8, 9, 10, 11, 12, 13, 14, 15] (by decide) ?_ (x_lv [2, 1, 0] ?_ (wl_No_variableLeaders_4 F n ob0 s0 ad0 n (0 : Int32) (0 : Int32)  _ _ o31 k32 h34 (by omega) (by omega) (fun ad35 => ?_)))
  · rfl
  · rfl
  refine x_nf2 (ws' := [((ob0 0), .inr (3, [.ref (ad0 0), .ref (ad0 1), .ref (ad0 2), .ref (ad0 3), .ref (ad0 4), .ref (ad0 5), .ref (ad0 6), .ref (ad0 7), .int (No_top s0), .int (No_lowest s0), .int (No_alive s0), .int (No_marks s0), .ref (ob0 1), .ref (ob0 2)])), ((ad0 0), .inl (cA 0, (No_kinds s0).1, .inl (No_kinds s0).2)), ((ad0 1), .inl (cA 0, (No_values s0).1, .inl (No_values s0).2)), ((ad0 2), .inl (cA 0, (No_starts s0).1, .inl (No_starts s0).2)), ((ad0 3), .inl (cA 0, (No_sizes s0).1, .inl (No_sizes s0).2)), ((ad0 4), .inl (cA 0, (No_lead s0).1, .inl (No_lead s0).2)), ((ad0 5), .inl (cA 0, (No_bodies s0).1, .inl (No_bodies s0).2)), ((ad0 6), .inl (cA 0, (No_needed s0).1, .inl (No_needed s0).2)), ((ad0 7), .inl (cA 0, (No_marked s0).1, .inl (No_marked s0).2)), ((ob0 1), .inr (0, [.ref (ad0 8), .ref (ad0 9), .int (Fi_used (No_fields s0)), .ref (ad0 10), .ref (ad0 11), .int (Fi_nextUsed (No_fields s0))])), ((ad0 8), .inl (cA 0, (Fi_features (No_fields s0)).1, .inl (Fi_features (No_fields s0)).2)), ((ad0 9), .inl (cA 0, (Fi_parts (No_fields s0)).1, .inl (Fi_parts (No_fields s0)).2)), ((ad0 10), .inl (cA 0, (Fi_nextFeatures (No_fields s0)).1, .inl (Fi_nextFeatures (No_fields s0)).2)), ((ad0 11), .inl (cA 0, (Fi_nextParts (No_fields s0)).1, .inl (Fi_nextParts (No_fields s0)).2)), ((ob0 2), .inr (1, [.ref (ad0 12), .int (Ld_size (No_reached s0))])), ((ad0 12), .inl (cA 0, (Ld_row (No_reached s0)).1, .inl (Ld_row (No_reached s0)).2))]) (lv' := [(0, .ref (ob0 0)), (1, .int (o31.1)), (2, .int (o31.2))]) rfl rfl ?_
  refine x_iload_n F d_No_variableLeaders_47 1 rfl rfl ?_
  replace hm := xm_p_some hm
  obtain ⟨eo, c_o, d_o⟩ := hm
  subst eo
  refine x_sub [0, 1, 2, 3, 4, 5, 6, 7, 8, 9, 10, 11, 12, 13, 14, 15] (by decide) ?_ (xe_i E (fun _ => 0) (by omega) (by omega) rfl (xz_i _) d_No_variableLeaders_48)
  rfl
