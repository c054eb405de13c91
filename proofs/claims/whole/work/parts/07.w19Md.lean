noncomputable def m_Md_part (n : Nat) (s0 : S_Md) (p0 : Int32) (p1 : Int32) : MO (Int32) := (xm_b (m_Md_field n s0 p0 p1) (fun o9 => (if o9 = (-1 : Int32) then (xm_p (-1 : Int32)) else (xm_rd (Md_parts s0) o9 (fun v15 => (xm_rd (Md_leaders s0) v15 (fun v16 => (xm_p v16))))))))
set_option maxHeartbeats 4000000 in
set_option maxRecDepth 100000 in
theorem c_Md_part (l : Launch) (D : va_G) (cA : Nat → ClassId) (n : Nat) (ob0 ad0 : Nat → Nat) (s0 : S_Md) (p0 : Int32) (p1 : Int32) (out : Int32) (k : KC) (hm : m_Md_part n s0 p0 p1 = some (out, k)) : XM l D cA y_Md_part b_Md_part 4 (some FieldType.int) 2 47 [.ref (ob0 0), .int p0, .int p1] ((w_Md cA ob0 ad0  s0)) k (fun _ => some (.int out)) (fun ad => (w_Md cA ob0 ad0  s0)) := by
  refine x_met (cc := b_Md_part) (nL := 4) (ret := (some FieldType.int)) R_Md (by decide) (Nat.le_of_ble_eq_true rfl) rfl (fun X F I E => ?_)
  unfold m_Md_part at hm
  refine x_nf2 (ws' := [((ob0 0), .inr (8, [.ref (ob0 1), .ref (ob0 2), .ref (ob0 3), .ref (ob0 4), .ref (ob0 5), .ref (ob0 6), .ref (ob0 7), .ref (ob0 8), .ref (ob0 9), .int (Md_end s0), .int (Md_nodes s0), .ref (ob0 10), .ref (ob0 11), .int (Md_fields s0), .ref (ob0 12), .ref (ob0 13), .int (Md_pushed s0), .ref (ob0 14), .int (Md_touches s0), .ref (ob0 15), .ref (ob0 16), .ref (ob0 17), .ref (ob0 18), .ref (ad0 0), .ref (ad0 1), .int (Md_length s0)])), ((ob0 1), .inl (cA 1, (Md_kinds s0).1, .inl (Md_kinds s0).2)), ((ob0 2), .inl (cA 0, (Md_values s0).1, .inl (Md_values s0).2)), ((ob0 3), .inl (cA 0, (Md_firsts s0).1, .inl (Md_firsts s0).2)), ((ob0 4), .inl (cA 0, (Md_manies s0).1, .inl (Md_manies s0).2)), ((ob0 5), .inl (cA 2, (Md_said s0).1, .inl (Md_said s0).2)), ((ob0 6), .inl (cA 2, (Md_marked s0).1, .inl (Md_marked s0).2)), ((ob0 7), .inl (cA 0, (Md_leaders s0).1, .inl (Md_leaders s0).2)), ((ob0 8), .inl (cA 0, (Md_trial s0).1, .inl (Md_trial s0).2)), ((ob0 9), .inl (cA 0, (Md_shown s0).1, .inl (Md_shown s0).2)), ((ob0 10), .inl (cA 0, (Md_features s0).1, .inl (Md_features s0).2)), ((ob0 11), .inl (cA 0, (Md_parts s0).1, .inl (Md_parts s0).2)), ((ob0 12), .inl (cA 0, (Md_pushedFeatures s0).1, .inl (Md_pushedFeatures s0).2)), ((ob0 13), .inl (cA 0, (Md_pushedParts s0).1, .inl (Md_pushedParts s0).2)), ((ob0 14), .inl (cA 0, (Md_touched s0).1, .inl (Md_touched s0).2)), ((ob0 15), .inl (cA 0, (Md_reached s0).1, .inl (Md_reached s0).2)), ((ob0 16), .inl (cA 0, (Md_blocks s0).1, .inl (Md_blocks s0).2)), ((ob0 17), .inl (cA 0, (Md_newBlocks s0).1, .inl (Md_newBlocks s0).2)), ((ob0 18), .inl (cA 0, (Md_places s0).1, .inl (Md_places s0).2)), ((ad0 0), .inl (cA 0, (Md_written s0).1, .inl (Md_written s0).2)), ((ad0 1), .inl (cA 0, (Md_other s0).1, .inl (Md_other s0).2))]) (lv' := [(0, .ref (ob0 0)), (1, .int p0), (2, .int p1)]) rfl rfl ?_
  refine x_aload_n F d_Md_part_0 0 rfl rfl ?_
  refine x_iload_n F d_Md_part_1 1 rfl rfl ?_
  refine x_iload_n F d_Md_part_2 2 rfl rfl ?_
  replace hm := xm_b_some hm
  obtain ⟨o9, k10, k11, h12, hm, c_o9, d_o9⟩ := hm
  refine x_callV (n := 2) (C := R_Md) (wr := []) F (c_Md_field l D cA n ob0 ad0 s0 p0 p1 o9 k10 h12) kw_828 kw_825 kw_827 kw_30 kw_47 ⟨rfl, by decide, by decide, by decide +kernel⟩ rfl (by decide) (by decide) (ci := 8) rfl rfl 0 rfl [0, 1, 2, 3, 4, 5, 6, 7, 8, 9, 10, 11, 12, 13, 14, 15, 16, 17, 18, 19, 20] [] rfl rfl (by decide) (by decide) (by decide) rfl (Nat.le_of_ble_eq_true rfl) (by omega) (by omega) d_Md_part_3 (fun ad13 => ?_)
  refine x_nf (ws' := [((ob0 0), .inr (8, [.ref (ob0 1), .ref (ob0 2), .ref (ob0 3), .ref (ob0 4), .ref (ob0 5), .ref (ob0 6), .ref (ob0 7), .ref (ob0 8), .ref (ob0 9), .int (Md_end s0), .int (Md_nodes s0), .ref (ob0 10), .ref (ob0 11), .int (Md_fields s0), .ref (ob0 12), .ref (ob0 13), .int (Md_pushed s0), .ref (ob0 14), .int (Md_touches s0), .ref (ob0 15), .ref (ob0 16), .ref (ob0 17), .ref (ob0 18), .ref (ad0 0), .ref (ad0 1), .int (Md_length s0)])), ((ob0 1), .inl (cA 1, (Md_kinds s0).1, .inl (Md_kinds s0).2)), ((ob0 2), .inl (cA 0, (Md_values s0).1, .inl (Md_values s0).2)), ((ob0 3), .inl (cA 0, (Md_firsts s0).1, .inl (Md_firsts s0).2)), ((ob0 4), .inl (cA 0, (Md_manies s0).1, .inl (Md_manies s0).2)), ((ob0 5), .inl (cA 2, (Md_said s0).1, .inl (Md_said s0).2)), ((ob0 6), .inl (cA 2, (Md_marked s0).1, .inl (Md_marked s0).2)), ((ob0 7), .inl (cA 0, (Md_leaders s0).1, .inl (Md_leaders s0).2)), ((ob0 8), .inl (cA 0, (Md_trial s0).1, .inl (Md_trial s0).2)), ((ob0 9), .inl (cA 0, (Md_shown s0).1, .inl (Md_shown s0).2)), ((ob0 10), .inl (cA 0, (Md_features s0).1, .inl (Md_features s0).2)), ((ob0 11), .inl (cA 0, (Md_parts s0).1, .inl (Md_parts s0).2)), ((ob0 12), .inl (cA 0, (Md_pushedFeatures s0).1, .inl (Md_pushedFeatures s0).2)), ((ob0 13), .inl (cA 0, (Md_pushedParts s0).1, .inl (Md_pushedParts s0).2)), ((ob0 14), .inl (cA 0, (Md_touched s0).1, .inl (Md_touched s0).2)), ((ob0 15), .inl (cA 0, (Md_reached s0).1, .inl (Md_reached s0).2)), ((ob0 16), .inl (cA 0, (Md_blocks s0).1, .inl (Md_blocks s0).2)), ((ob0 17), .inl (cA 0, (Md_newBlocks s0).1, .inl (Md_newBlocks s0).2)), ((ob0 18), .inl (cA 0, (Md_places s0).1, .inl (Md_places s0).2)), ((ad0 0), .inl (cA 0, (Md_written s0).1, .inl (Md_written s0).2)), ((ad0 1), .inl (cA 0, (Md_other s0).1, .inl (Md_other s0).2))]) (st' := [.int o9]) rfl rfl ?_
  refine x_istore_n (lv' := [(3, .int o9), (0, .ref (ob0 0)), (1, .int p0), (2, .int p1)]) F d_Md_part_6 rfl (by decide) rfl ?_
  refine x_iload_n F d_Md_part_7 0 rfl rfl ?_
  refine x_iconst (v := (-1 : Int32)) F d_Md_part_8 (by decide) ?_
  refine x_icmp_ne F 16 d_Md_part_9 (by decide) (fun c14 => ?_) (fun c14 => ?_)
  · replace hm := xm_f hm c14
    refine x_aload_n F d_Md_part_16 1 rfl rfl ?_
    refine x_get F ck_Md hin_Md 0 6 rfl (by decide) kw_640 rfl rfl d_Md_part_17 ?_
    refine x_aload_n F d_Md_part_20 1 rfl rfl ?_
    refine x_get F ck_Md hin_Md 0 12 rfl (by decide) kw_646 rfl rfl d_Md_part_21 ?_
    refine x_iload_n F d_Md_part_24 0 rfl rfl ?_
    replace hm := xm_rd_some hm
    obtain ⟨v15, e_v15, b_v15, hm⟩ := hm
    refine x_iald (x := (Md_parts s0)) F 11 rfl e_v15 b_v15 d_Md_part_25 ?_
    replace hm := xm_rd_some hm
    obtain ⟨v16, e_v16, b_v16, hm⟩ := hm
    refine x_iald (x := (Md_leaders s0)) F 7 rfl e_v16 b_v16 d_Md_part_26 ?_
    replace hm := xm_p_some hm
    obtain ⟨eo, c_o, d_o⟩ := hm
    subst eo
    refine x_sub [0, 1, 2, 3, 4, 5, 6, 7, 8, 9, 10, 11, 12, 13, 14, 15, 16, 17, 18, 19, 20] (by decide) ?_ (xe_i E (fun _ => 0) (by omega) (by omega) rfl (xz_i _) d_Md_part_27)
    rfl
  · replace hm := xm_t hm c14
    refine x_iconst (v := (-1 : Int32)) F d_Md_part_12 (by decide) ?_
    refine x_goto F 27 d_Md_part_13 (by decide) ?_
    replace hm := xm_p_some hm
    obtain ⟨eo, c_o, d_o⟩ := hm
    subst eo
    refine x_sub [0, 1, 2, 3, 4, 5, 6, 7, 8, 9, 10, 11, 12, 13, 14, 15, 16, 17, 18, 19, 20] (by decide) ?_ (xe_i E (fun _ => 0) (by omega) (by omega) rfl (xz_i _) d_Md_part_27)
    rfl

noncomputable def m_Md_set (n : Nat) (s0 : S_Md) (p0 : Int32) (p1 : Int32) (p2 : Int32) : MO (Int32 × S_Md) := (xm_b (m_Md_field n s0 p0 p1) (fun o28 => (if o28 = (-1 : Int32) then (xm_p ((-1 : Int32), s0)) else (xm_b (m_Md_meant n s0 p0) (fun o34 => (xm_rd (Md_kinds s0) o34 (fun v39 => (if v39 = (4 : Int32) then (xm_b (m_Md_has n s0 p2) (fun o41 => (if o41 = 0 then (xm_p ((-1 : Int32), s0)) else (xm_rd (Md_parts s0) o28 (fun v47 => (xm_rd (Md_leaders s0) v47 (fun v48 => (xm_wr (Md_parts s0) o28 p2 (fun a49 => (xm_b (m_Md_unmark n ((Md_kinds s0), (Md_values s0), (Md_firsts s0), (Md_manies s0), (Md_said s0), (Md_marked s0), (Md_leaders s0), (Md_trial s0), (Md_shown s0), (Md_end s0), (Md_nodes s0), (Md_features s0), a49, (Md_fields s0), (Md_pushedFeatures s0), (Md_pushedParts s0), (Md_pushed s0), (Md_touched s0), (Md_touches s0), (Md_reached s0), (Md_blocks s0), (Md_newBlocks s0), (Md_places s0), (Md_written s0), (Md_other s0), (Md_length s0))) (fun o50 => (xm_p (v48, o50))))))))))))) else (xm_p ((-1 : Int32), s0))))))))))
set_option maxHeartbeats 4000000 in
set_option maxRecDepth 100000 in
theorem c_Md_set (l : Launch) (D : va_G) (cA : Nat → ClassId) (n : Nat) (ob0 ad0 : Nat → Nat) (s0 : S_Md) (p0 : Int32) (p1 : Int32) (p2 : Int32) (out : Int32 × S_Md) (k : KC) (hm : m_Md_set n s0 p0 p1 p2 = some (out, k)) : XM l D cA y_Md_set b_Md_set 6 (some FieldType.int) 2 47 [.ref (ob0 0), .int p0, .int p1, .int p2] ((w_Md cA ob0 ad0  s0)) k (fun _ => some (.int (out.1))) (fun ad => (w_Md cA ob0 ad  (out.2))) := by
  refine x_met (cc := b_Md_set) (nL := 6) (ret := (some FieldType.int)) R_Md (by decide) (Nat.le_of_ble_eq_true rfl) rfl (fun X F I E => ?_)
  unfold m_Md_set at hm
  refine x_nf2 (ws' := [((ob0 0), .inr (8, [.ref (ob0 1), .ref (ob0 2), .ref (ob0 3), .ref (ob0 4), .ref (ob0 5), .ref (ob0 6), .ref (ob0 7), .ref (ob0 8), .ref (ob0 9), .int (Md_end s0), .int (Md_nodes s0), .ref (ob0 10), .ref (ob0 11), .int (Md_fields s0), .ref (ob0 12), .ref (ob0 13), .int (Md_pushed s0), .ref (ob0 14), .int (Md_touches s0), .ref (ob0 15), .ref (ob0 16), .ref (ob0 17), .ref (ob0 18), .ref (ad0 0), .ref (ad0 1), .int (Md_length s0)])), ((ob0 1), .inl (cA 1, (Md_kinds s0).1, .inl (Md_kinds s0).2)), ((ob0 2), .inl (cA 0, (Md_values s0).1, .inl (Md_values s0).2)), ((ob0 3), .inl (cA 0, (Md_firsts s0).1, .inl (Md_firsts s0).2)), ((ob0 4), .inl (cA 0, (Md_manies s0).1, .inl (Md_manies s0).2)), ((ob0 5), .inl (cA 2, (Md_said s0).1, .inl (Md_said s0).2)), ((ob0 6), .inl (cA 2, (Md_marked s0).1, .inl (Md_marked s0).2)), ((ob0 7), .inl (cA 0, (Md_leaders s0).1, .inl (Md_leaders s0).2)), ((ob0 8), .inl (cA 0, (Md_trial s0).1, .inl (Md_trial s0).2)), ((ob0 9), .inl (cA 0, (Md_shown s0).1, .inl (Md_shown s0).2)), ((ob0 10), .inl (cA 0, (Md_features s0).1, .inl (Md_features s0).2)), ((ob0 11), .inl (cA 0, (Md_parts s0).1, .inl (Md_parts s0).2)), ((ob0 12), .inl (cA 0, (Md_pushedFeatures s0).1, .inl (Md_pushedFeatures s0).2)), ((ob0 13), .inl (cA 0, (Md_pushedParts s0).1, .inl (Md_pushedParts s0).2)), ((ob0 14), .inl (cA 0, (Md_touched s0).1, .inl (Md_touched s0).2)), ((ob0 15), .inl (cA 0, (Md_reached s0).1, .inl (Md_reached s0).2)), ((ob0 16), .inl (cA 0, (Md_blocks s0).1, .inl (Md_blocks s0).2)), ((ob0 17), .inl (cA 0, (Md_newBlocks s0).1, .inl (Md_newBlocks s0).2)), ((ob0 18), .inl (cA 0, (Md_places s0).1, .inl (Md_places s0).2)), ((ad0 0), .inl (cA 0, (Md_written s0).1, .inl (Md_written s0).2)), ((ad0 1), .inl (cA 0, (Md_other s0).1, .inl (Md_other s0).2))]) (lv' := [(0, .ref (ob0 0)), (1, .int p0), (2, .int p1), (3, .int p2)]) rfl rfl ?_
  refine x_aload_n F d_Md_set_0 0 rfl rfl ?_
  refine x_iload_n F d_Md_set_1 1 rfl rfl ?_
  refine x_iload_n F d_Md_set_2 2 rfl rfl ?_
  replace hm := xm_b_some hm
  obtain ⟨o28, k29, k30, h31, hm, c_o28, d_o28⟩ := hm
  refine x_callV (n := 2) (C := R_Md) (wr := []) F (c_Md_field l D cA n ob0 ad0 s0 p0 p1 o28 k29 h31) kw_828 kw_825 kw_827 kw_30 kw_47 ⟨rfl, by decide, by decide, by decide +kernel⟩ rfl (by decide) (by decide) (ci := 8) rfl rfl 0 rfl [0, 1, 2, 3, 4, 5, 6, 7, 8, 9, 10, 11, 12, 13, 14, 15, 16, 17, 18, 19, 20] [] rfl rfl (by decide) (by decide) (by decide) rfl (Nat.le_of_ble_eq_true rfl) (by omega) (by omega) d_Md_set_3 (fun ad32 => ?_)
  refine x_nf (ws' := [((ob0 0), .inr (8, [.ref (ob0 1), .ref (ob0 2), .ref (ob0 3), .ref (ob0 4), .ref (ob0 5), .ref (ob0 6), .ref (ob0 7), .ref (ob0 8), .ref (ob0 9), .int (Md_end s0), .int (Md_nodes s0), .ref (ob0 10), .ref (ob0 11), .int (Md_fields s0), .ref (ob0 12), .ref (ob0 13), .int (Md_pushed s0), .ref (ob0 14), .int (Md_touches s0), .ref (ob0 15), .ref (ob0 16), .ref (ob0 17), .ref (ob0 18), .ref (ad0 0), .ref (ad0 1), .int (Md_length s0)])), ((ob0 1), .inl (cA 1, (Md_kinds s0).1, .inl (Md_kinds s0).2)), ((ob0 2), .inl (cA 0, (Md_values s0).1, .inl (Md_values s0).2)), ((ob0 3), .inl (cA 0, (Md_firsts s0).1, .inl (Md_firsts s0).2)), ((ob0 4), .inl (cA 0, (Md_manies s0).1, .inl (Md_manies s0).2)), ((ob0 5), .inl (cA 2, (Md_said s0).1, .inl (Md_said s0).2)), ((ob0 6), .inl (cA 2, (Md_marked s0).1, .inl (Md_marked s0).2)), ((ob0 7), .inl (cA 0, (Md_leaders s0).1, .inl (Md_leaders s0).2)), ((ob0 8), .inl (cA 0, (Md_trial s0).1, .inl (Md_trial s0).2)), ((ob0 9), .inl (cA 0, (Md_shown s0).1, .inl (Md_shown s0).2)), ((ob0 10), .inl (cA 0, (Md_features s0).1, .inl (Md_features s0).2)), ((ob0 11), .inl (cA 0, (Md_parts s0).1, .inl (Md_parts s0).2)), ((ob0 12), .inl (cA 0, (Md_pushedFeatures s0).1, .inl (Md_pushedFeatures s0).2)), ((ob0 13), .inl (cA 0, (Md_pushedParts s0).1, .inl (Md_pushedParts s0).2)), ((ob0 14), .inl (cA 0, (Md_touched s0).1, .inl (Md_touched s0).2)), ((ob0 15), .inl (cA 0, (Md_reached s0).1, .inl (Md_reached s0).2)), ((ob0 16), .inl (cA 0, (Md_blocks s0).1, .inl (Md_blocks s0).2)), ((ob0 17), .inl (cA 0, (Md_newBlocks s0).1, .inl (Md_newBlocks s0).2)), ((ob0 18), .inl (cA 0, (Md_places s0).1, .inl (Md_places s0).2)), ((ad0 0), .inl (cA 0, (Md_written s0).1, .inl (Md_written s0).2)), ((ad0 1), .inl (cA 0, (Md_other s0).1, .inl (Md_other s0).2))]) (st' := [.int o28]) rfl rfl ?_
  refine x_istore (lv' := [(4, .int o28), (0, .ref (ob0 0)), (1, .int p0), (2, .int p1), (3, .int p2)]) F d_Md_set_6 (by decide) rfl ?_
  refine x_iload F d_Md_set_8 0 rfl ?_
  refine x_iconst (v := (-1 : Int32)) F d_Md_set_10 (by decide) ?_
  refine x_icmp_eq F 36 d_Md_set_11 (by decide) (fun c33 => ?_) (fun c33 => ?_)
  · replace hm := xm_t hm c33
    refine x_iconst (v := (-1 : Int32)) F d_Md_set_36 (by decide) ?_
    replace hm := xm_p_some hm
    obtain ⟨eo, c_o, d_o⟩ := hm
    subst eo
    refine x_sub [0, 1, 2, 3, 4, 5, 6, 7, 8, 9, 10, 11, 12, 13, 14, 15, 16, 17, 18, 19, 20] (by decide) ?_ (xe_i E ad0 (by omega) (by omega) rfl (xz_i _) d_Md_set_37)
    rfl
  · replace hm := xm_f hm c33
    refine x_aload_n F d_Md_set_14 1 rfl rfl ?_
    refine x_get F ck_Md hin_Md 0 0 rfl (by decide) kw_634 rfl rfl d_Md_set_15 ?_
    refine x_aload_n F d_Md_set_18 1 rfl rfl ?_
    refine x_iload_n F d_Md_set_19 2 rfl rfl ?_
    replace hm := xm_b_some hm
    obtain ⟨o34, k35, k36, h37, hm, c_o34, d_o34⟩ := hm
    refine x_callV (n := 1) (C := R_Md) (wr := []) F (c_Md_meant l D cA n ob0 ad0 s0 p0 o34 k35 h37) kw_786 kw_783 kw_785 kw_27 kw_47 ⟨rfl, by decide, by decide, by decide +kernel⟩ rfl (by decide) (by decide) (ci := 8) rfl rfl 0 rfl [0, 1, 2, 3, 4, 5, 6, 7, 8, 9, 10, 11, 12, 13, 14, 15, 16, 17, 18, 19, 20] [] rfl rfl (by decide) (by decide) (by decide) rfl (Nat.le_of_ble_eq_true rfl) (by omega) (by omega) d_Md_set_20 (fun ad38 => ?_)
    refine x_nf (ws' := [((ob0 0), .inr (8, [.ref (ob0 1), .ref (ob0 2), .ref (ob0 3), .ref (ob0 4), .ref (ob0 5), .ref (ob0 6), .ref (ob0 7), .ref (ob0 8), .ref (ob0 9), .int (Md_end s0), .int (Md_nodes s0), .ref (ob0 10), .ref (ob0 11), .int (Md_fields s0), .ref (ob0 12), .ref (ob0 13), .int (Md_pushed s0), .ref (ob0 14), .int (Md_touches s0), .ref (ob0 15), .ref (ob0 16), .ref (ob0 17), .ref (ob0 18), .ref (ad0 0), .ref (ad0 1), .int (Md_length s0)])), ((ob0 1), .inl (cA 1, (Md_kinds s0).1, .inl (Md_kinds s0).2)), ((ob0 2), .inl (cA 0, (Md_values s0).1, .inl (Md_values s0).2)), ((ob0 3), .inl (cA 0, (Md_firsts s0).1, .inl (Md_firsts s0).2)), ((ob0 4), .inl (cA 0, (Md_manies s0).1, .inl (Md_manies s0).2)), ((ob0 5), .inl (cA 2, (Md_said s0).1, .inl (Md_said s0).2)), ((ob0 6), .inl (cA 2, (Md_marked s0).1, .inl (Md_marked s0).2)), ((ob0 7), .inl (cA 0, (Md_leaders s0).1, .inl (Md_leaders s0).2)), ((ob0 8), .inl (cA 0, (Md_trial s0).1, .inl (Md_trial s0).2)), ((ob0 9), .inl (cA 0, (Md_shown s0).1, .inl (Md_shown s0).2)), ((ob0 10), .inl (cA 0, (Md_features s0).1, .inl (Md_features s0).2)), ((ob0 11), .inl (cA 0, (Md_parts s0).1, .inl (Md_parts s0).2)), ((ob0 12), .inl (cA 0, (Md_pushedFeatures s0).1, .inl (Md_pushedFeatures s0).2)), ((ob0 13), .inl (cA 0, (Md_pushedParts s0).1, .inl (Md_pushedParts s0).2)), ((ob0 14), .inl (cA 0, (Md_touched s0).1, .inl (Md_touched s0).2)), ((ob0 15), .inl (cA 0, (Md_reached s0).1, .inl (Md_reached s0).2)), ((ob0 16), .inl (cA 0, (Md_blocks s0).1, .inl (Md_blocks s0).2)), ((ob0 17), .inl (cA 0, (Md_newBlocks s0).1, .inl (Md_newBlocks s0).2)), ((ob0 18), .inl (cA 0, (Md_places s0).1, .inl (Md_places s0).2)), ((ad0 0), .inl (cA 0, (Md_written s0).1, .inl (Md_written s0).2)), ((ad0 1), .inl (cA 0, (Md_other s0).1, .inl (Md_other s0).2))]) (st' := [.int o34, .ref (ob0 1)]) rfl rfl ?_
    replace hm := xm_rd_some hm
    obtain ⟨v39, e_v39, b_v39, hm⟩ := hm
    refine x_bald (x := (Md_kinds s0)) F 1 rfl e_v39 b_v39 d_Md_set_23 ?_
    refine x_iconst (v := (4 : Int32)) F d_Md_set_24 (by decide) ?_
    refine x_icmp_ne F 36 d_Md_set_25 (by decide) (fun c40 => ?_) (fun c40 => ?_)
    · replace hm := xm_f hm c40
      refine x_iconst (v := (-1 : Int32)) F d_Md_set_36 (by decide) ?_
      replace hm := xm_p_some hm
      obtain ⟨eo, c_o, d_o⟩ := hm
      subst eo
      refine x_sub [0, 1, 2, 3, 4, 5, 6, 7, 8, 9, 10, 11, 12, 13, 14, 15, 16, 17, 18, 19, 20] (by decide) ?_ (xe_i E ad0 (by omega) (by omega) rfl (xz_i _) d_Md_set_37)
      rfl
    · replace hm := xm_t hm c40
      refine x_aload_n F d_Md_set_28 1 rfl rfl ?_
      refine x_iload_n F d_Md_set_29 4 rfl rfl ?_
      replace hm := xm_b_some hm
      obtain ⟨o41, k42, k43, h44, hm, c_o41, d_o41⟩ := hm
      refine x_callV (n := 1) (C := R_Md) (wr := []) F (c_Md_has l D cA n ob0 ad0 s0 p2 o41 k42 h44) kw_742 kw_739 kw_741 kw_20 kw_47 ⟨rfl, by decide, by decide, by decide +kernel⟩ rfl (by decide) (by decide) (ci := 8) rfl rfl 0 rfl [0, 1, 2, 3, 4, 5, 6, 7, 8, 9, 10, 11, 12, 13, 14, 15, 16, 17, 18, 19, 20] [] rfl rfl (by decide) (by decide) (by decide) rfl (Nat.le_of_ble_eq_true rfl) (by omega) (by omega) d_Md_set_30 (fun ad45 => ?_)
      refine x_nf (ws' := [((ob0 0), .inr (8, [.ref (ob0 1), .ref (ob0 2), .ref (ob0 3), .ref (ob0 4), .ref (ob0 5), .ref (ob0 6), .ref (ob0 7), .ref (ob0 8), .ref (ob0 9), .int (Md_end s0), .int (Md_nodes s0), .ref (ob0 10), .ref (ob0 11), .int (Md_fields s0), .ref (ob0 12), .ref (ob0 13), .int (Md_pushed s0), .ref (ob0 14), .int (Md_touches s0), .ref (ob0 15), .ref (ob0 16), .ref (ob0 17), .ref (ob0 18), .ref (ad0 0), .ref (ad0 1), .int (Md_length s0)])), ((ob0 1), .inl (cA 1, (Md_kinds s0).1, .inl (Md_kinds s0).2)), ((ob0 2), .inl (cA 0, (Md_values s0).1, .inl (Md_values s0).2)), ((ob0 3), .inl (cA 0, (Md_firsts s0).1, .inl (Md_firsts s0).2)), ((ob0 4), .inl (cA 0, (Md_manies s0).1, .inl (Md_manies s0).2)), ((ob0 5), .inl (cA 2, (Md_said s0).1, .inl (Md_said s0).2)), ((ob0 6), .inl (cA 2, (Md_marked s0).1, .inl (Md_marked s0).2)), ((ob0 7), .inl (cA 0, (Md_leaders s0).1, .inl (Md_leaders s0).2)), ((ob0 8), .inl (cA 0, (Md_trial s0).1, .inl (Md_trial s0).2)), ((ob0 9), .inl (cA 0, (Md_shown s0).1, .inl (Md_shown s0).2)), ((ob0 10), .inl (cA 0, (Md_features s0).1, .inl (Md_features s0).2)), ((ob0 11), .inl (cA 0, (Md_parts s0).1, .inl (Md_parts s0).2)), ((ob0 12), .inl (cA 0, (Md_pushedFeatures s0).1, .inl (Md_pushedFeatures s0).2)), ((ob0 13), .inl (cA 0, (Md_pushedParts s0).1, .inl (Md_pushedParts s0).2)), ((ob0 14), .inl (cA 0, (Md_touched s0).1, .inl (Md_touched s0).2)), ((ob0 15), .inl (cA 0, (Md_reached s0).1, .inl (Md_reached s0).2)), ((ob0 16), .inl (cA 0, (Md_blocks s0).1, .inl (Md_blocks s0).2)), ((ob0 17), .inl (cA 0, (Md_newBlocks s0).1, .inl (Md_newBlocks s0).2)), ((ob0 18), .inl (cA 0, (Md_places s0).1, .inl (Md_places s0).2)), ((ad0 0), .inl (cA 0, (Md_written s0).1, .inl (Md_written s0).2)), ((ad0 1), .inl (cA 0, (Md_other s0).1, .inl (Md_other s0).2))]) (st' := [.int o41]) rfl rfl ?_
      refine x_if_ne F 38 d_Md_set_33 (by decide) (fun c46 => ?_) (fun c46 => ?_)
      · replace hm := xm_f hm c46
        refine x_aload_n F d_Md_set_38 1 rfl rfl ?_
        refine x_get F ck_Md hin_Md 0 6 rfl (by decide) kw_640 rfl rfl d_Md_set_39 ?_
        refine x_aload_n F d_Md_set_42 1 rfl rfl ?_
        refine x_get F ck_Md hin_Md 0 12 rfl (by decide) kw_646 rfl rfl d_Md_set_43 ?_
        refine x_iload F d_Md_set_46 0 rfl ?_
        replace hm := xm_rd_some hm
        obtain ⟨v47, e_v47, b_v47, hm⟩ := hm
        refine x_iald (x := (Md_parts s0)) F 11 rfl e_v47 b_v47 d_Md_set_48 ?_
        replace hm := xm_rd_some hm
        obtain ⟨v48, e_v48, b_v48, hm⟩ := hm
        refine x_iald (x := (Md_leaders s0)) F 7 rfl e_v48 b_v48 d_Md_set_49 ?_
        refine x_istore (lv' := [(5, .int v48), (4, .int o28), (0, .ref (ob0 0)), (1, .int p0), (2, .int p1), (3, .int p2)]) F d_Md_set_50 (by decide) rfl ?_
        refine x_aload_n F d_Md_set_52 2 rfl rfl ?_
        refine x_get F ck_Md hin_Md 0 12 rfl (by decide) kw_646 rfl rfl d_Md_set_53 ?_
        refine x_iload F d_Md_set_56 1 rfl ?_
        refine x_iload_n F d_Md_set_58 5 rfl rfl ?_
        replace hm := xm_wr_some hm
        obtain ⟨a49, e_a49, b_a49, hm⟩ := hm
        refine x_iast (x := (Md_parts s0)) (x' := a49) (ws' := [((ob0 0), .inr (8, [.ref (ob0 1), .ref (ob0 2), .ref (ob0 3), .ref (ob0 4), .ref (ob0 5), .ref (ob0 6), .ref (ob0 7), .ref (ob0 8), .ref (ob0 9), .int (Md_end s0), .int (Md_nodes s0), .ref (ob0 10), .ref (ob0 11), .int (Md_fields s0), .ref (ob0 12), .ref (ob0 13), .int (Md_pushed s0), .ref (ob0 14), .int (Md_touches s0), .ref (ob0 15), .ref (ob0 16), .ref (ob0 17), .ref (ob0 18), .ref (ad0 0), .ref (ad0 1), .int (Md_length s0)])), ((ob0 1), .inl (cA 1, (Md_kinds s0).1, .inl (Md_kinds s0).2)), ((ob0 2), .inl (cA 0, (Md_values s0).1, .inl (Md_values s0).2)), ((ob0 3), .inl (cA 0, (Md_firsts s0).1, .inl (Md_firsts s0).2)), ((ob0 4), .inl (cA 0, (Md_manies s0).1, .inl (Md_manies s0).2)), ((ob0 5), .inl (cA 2, (Md_said s0).1, .inl (Md_said s0).2)), ((ob0 6), .inl (cA 2, (Md_marked s0).1, .inl (Md_marked s0).2)), ((ob0 7), .inl (cA 0, (Md_leaders s0).1, .inl (Md_leaders s0).2)), ((ob0 8), .inl (cA 0, (Md_trial s0).1, .inl (Md_trial s0).2)), ((ob0 9), .inl (cA 0, (Md_shown s0).1, .inl (Md_shown s0).2)), ((ob0 10), .inl (cA 0, (Md_features s0).1, .inl (Md_features s0).2)), ((ob0 11), .inl (cA 0, a49.1, .inl a49.2)), ((ob0 12), .inl (cA 0, (Md_pushedFeatures s0).1, .inl (Md_pushedFeatures s0).2)), ((ob0 13), .inl (cA 0, (Md_pushedParts s0).1, .inl (Md_pushedParts s0).2)), ((ob0 14), .inl (cA 0, (Md_touched s0).1, .inl (Md_touched s0).2)), ((ob0 15), .inl (cA 0, (Md_reached s0).1, .inl (Md_reached s0).2)), ((ob0 16), .inl (cA 0, (Md_blocks s0).1, .inl (Md_blocks s0).2)), ((ob0 17), .inl (cA 0, (Md_newBlocks s0).1, .inl (Md_newBlocks s0).2)), ((ob0 18), .inl (cA 0, (Md_places s0).1, .inl (Md_places s0).2)), ((ad0 0), .inl (cA 0, (Md_written s0).1, .inl (Md_written s0).2)), ((ad0 1), .inl (cA 0, (Md_other s0).1, .inl (Md_other s0).2))]) F 11 rfl e_a49 b_a49 rfl d_Md_set_59 ?_
        refine x_aload_n F d_Md_set_60 2 rfl rfl ?_
        replace hm := xm_b_some hm
        obtain ⟨o50, k51, k52, h53, hm, c_o50, d_o50⟩ := hm
        refine x_callV (n := 0) (C := R_Md) (wr := []) F (c_Md_unmark l D cA n ob0 ad0 ((Md_kinds s0), (Md_values s0), (Md_firsts s0), (Md_manies s0), (Md_said s0), (Md_marked s0), (Md_leaders s0), (Md_trial s0), (Md_shown s0), (Md_end s0), (Md_nodes s0), (Md_features s0), a49, (Md_fields s0), (Md_pushedFeatures s0), (Md_pushedParts s0), (Md_pushed s0), (Md_touched s0), (Md_touches s0), (Md_reached s0), (Md_blocks s0), (Md_newBlocks s0), (Md_places s0), (Md_written s0), (Md_other s0), (Md_length s0))  o50 k51 h53) kw_726 kw_723 kw_725 kw_19 kw_47 ⟨rfl, by decide, by decide, by decide +kernel⟩ rfl (by decide) (by decide) (ci := 8) rfl rfl 0 rfl [0, 1, 2, 3, 4, 5, 6, 7, 8, 9, 10, 11, 12, 13, 14, 15, 16, 17, 18, 19, 20] [] rfl rfl (by decide) (by decide) (by decide) rfl (Nat.le_of_ble_eq_true rfl) (by omega) (by omega) d_Md_set_61 (fun ad54 => ?_)
        refine x_nf (ws' := [((ob0 0), .inr (8, [.ref (ob0 1), .ref (ob0 2), .ref (ob0 3), .ref (ob0 4), .ref (ob0 5), .ref (ob0 6), .ref (ob0 7), .ref (ob0 8), .ref (ob0 9), .int (Md_end o50), .int (Md_nodes o50), .ref (ob0 10), .ref (ob0 11), .int (Md_fields o50), .ref (ob0 12), .ref (ob0 13), .int (Md_pushed o50), .ref (ob0 14), .int (Md_touches o50), .ref (ob0 15), .ref (ob0 16), .ref (ob0 17), .ref (ob0 18), .ref (ad54 0), .ref (ad54 1), .int (Md_length o50)])), ((ob0 1), .inl (cA 1, (Md_kinds o50).1, .inl (Md_kinds o50).2)), ((ob0 2), .inl (cA 0, (Md_values o50).1, .inl (Md_values o50).2)), ((ob0 3), .inl (cA 0, (Md_firsts o50).1, .inl (Md_firsts o50).2)), ((ob0 4), .inl (cA 0, (Md_manies o50).1, .inl (Md_manies o50).2)), ((ob0 5), .inl (cA 2, (Md_said o50).1, .inl (Md_said o50).2)), ((ob0 6), .inl (cA 2, (Md_marked o50).1, .inl (Md_marked o50).2)), ((ob0 7), .inl (cA 0, (Md_leaders o50).1, .inl (Md_leaders o50).2)), ((ob0 8), .inl (cA 0, (Md_trial o50).1, .inl (Md_trial o50).2)), ((ob0 9), .inl (cA 0, (Md_shown o50).1, .inl (Md_shown o50).2)), ((ob0 10), .inl (cA 0, (Md_features o50).1, .inl (Md_features o50).2)), ((ob0 11), .inl (cA 0, (Md_parts o50).1, .inl (Md_parts o50).2)), ((ob0 12), .inl (cA 0, (Md_pushedFeatures o50).1, .inl (Md_pushedFeatures o50).2)), ((ob0 13), .inl (cA 0, (Md_pushedParts o50).1, .inl (Md_pushedParts o50).2)), ((ob0 14), .inl (cA 0, (Md_touched o50).1, .inl (Md_touched o50).2)), ((ob0 15), .inl (cA 0, (Md_reached o50).1, .inl (Md_reached o50).2)), ((ob0 16), .inl (cA 0, (Md_blocks o50).1, .inl (Md_blocks o50).2)), ((ob0 17), .inl (cA 0, (Md_newBlocks o50).1, .inl (Md_newBlocks o50).2)), ((ob0 18), .inl (cA 0, (Md_places o50).1, .inl (Md_places o50).2)), ((ad54 0), .inl (cA 0, (Md_written o50).1, .inl (Md_written o50).2)), ((ad54 1), .inl (cA 0, (Md_other o50).1, .inl (Md_other o50).2))]) (st' := []) rfl rfl ?_
        refine x_iload F d_Md_set_64 0 rfl ?_
        replace hm := xm_p_some hm
        obtain ⟨eo, c_o, d_o⟩ := hm
        subst eo
        refine x_sub [0, 1, 2, 3, 4, 5, 6, 7, 8, 9, 10, 11, 12, 13, 14, 15, 16, 17, 18, 19, 20] (by decide) ?_ (xe_i E ad54 (by omega) (by omega) rfl (xz_i _) d_Md_set_66)
        rfl
      · replace hm := xm_t hm c46
        refine x_iconst (v := (-1 : Int32)) F d_Md_set_36 (by decide) ?_
        replace hm := xm_p_some hm
        obtain ⟨eo, c_o, d_o⟩ := hm
        subst eo
        refine x_sub [0, 1, 2, 3, 4, 5, 6, 7, 8, 9, 10, 11, 12, 13, 14, 15, 16, 17, 18, 19, 20] (by decide) ?_ (xe_i E ad0 (by omega) (by omega) rfl (xz_i _) d_Md_set_37)
        rfl

noncomputable def L_Md_reach_87 (y1 : Int32) (y2 : Int32) (y3 : Int32) (y4 : Int32) (y5 : Int32) (y6 : Int32) (s0 : S_Md) (n i : Nat) : Int32 → Int32 → MO (Int32 × Int32) := Nat.rec (motive := fun _ => Int32 → Int32 → MO (Int32 × Int32)) (fun _ _ => none) (fun _ ih x7 x8 => (if y2 ≤ x8 then (xm_p ((x7, x8))) else (if x7 = 0 then (xm_rd (Md_reached s0) x8 (fun v41 => (xm_b (if v41 = y6 then (xm_p (1 : Int32)) else (xm_p (0 : Int32))) (fun j42 => (ih j42 (x8 + 1)))))) else (xm_p ((x7, x8)))))) i
theorem L_Md_reach_87_s (y1 : Int32) (y2 : Int32) (y3 : Int32) (y4 : Int32) (y5 : Int32) (y6 : Int32) (s0 : S_Md) (n i : Nat) (x7 : Int32) (x8 : Int32) : L_Md_reach_87 y1 y2 y3 y4 y5 y6 s0 n (i + 1) x7 x8 = (if y2 ≤ x8 then (xm_p ((x7, x8))) else (if x7 = 0 then (xm_rd (Md_reached s0) x8 (fun v41 => (xm_b (if v41 = y6 then (xm_p (1 : Int32)) else (xm_p (0 : Int32))) (fun j42 => (L_Md_reach_87 y1 y2 y3 y4 y5 y6 s0 n i j42 (x8 + 1)))))) else (xm_p ((x7, x8))))) := rfl
noncomputable def L_Md_reach_36 (y1 : Int32) (y3 : Int32) (y4 : Int32) (n i : Nat) : Int32 → Int32 → S_Md → MO (Int32 × Int32 × S_Md) := Nat.rec (motive := fun _ => Int32 → Int32 → S_Md → MO (Int32 × Int32 × S_Md)) (fun _ _ _ => none) (fun _ ih x2 x5 s0 => (xm_rd (Md_manies s0) y4 (fun v32 => (if v32 ≤ x5 then (xm_p ((x2, x5, s0))) else (xm_rd (Md_kinds s0) y4 (fun v34 => (if v34 < (3 : Int32) then (xm_p ((x2, x5, s0))) else (xm_rd (Md_firsts s0) y4 (fun v36 => (xm_rd (Md_parts s0) (v36 + x5) (fun v37 => (xm_rd (Md_leaders s0) v37 (fun v38 => (xm_b (L_Md_reach_87 y1 x2 y3 y4 x5 v38 s0 n n (0 : Int32) (0 : Int32)) (fun o47 => (if (o47.1) = 0 then (xm_wr (Md_reached s0) x2 v38 (fun a53 => (ih (x2 + 1) (x5 + 1) ((Md_kinds s0), (Md_values s0), (Md_firsts s0), (Md_manies s0), (Md_said s0), (Md_marked s0), (Md_leaders s0), (Md_trial s0), (Md_shown s0), (Md_end s0), (Md_nodes s0), (Md_features s0), (Md_parts s0), (Md_fields s0), (Md_pushedFeatures s0), (Md_pushedParts s0), (Md_pushed s0), (Md_touched s0), (Md_touches s0), a53, (Md_blocks s0), (Md_newBlocks s0), (Md_places s0), (Md_written s0), (Md_other s0), (Md_length s0))))) else (ih x2 (x5 + 1) s0))))))))))))))))) i
theorem L_Md_reach_36_s (y1 : Int32) (y3 : Int32) (y4 : Int32) (n i : Nat) (x2 : Int32) (x5 : Int32) (s0 : S_Md) : L_Md_reach_36 y1 y3 y4 n (i + 1) x2 x5 s0 = (xm_rd (Md_manies s0) y4 (fun v32 => (if v32 ≤ x5 then (xm_p ((x2, x5, s0))) else (xm_rd (Md_kinds s0) y4 (fun v34 => (if v34 < (3 : Int32) then (xm_p ((x2, x5, s0))) else (xm_rd (Md_firsts s0) y4 (fun v36 => (xm_rd (Md_parts s0) (v36 + x5) (fun v37 => (xm_rd (Md_leaders s0) v37 (fun v38 => (xm_b (L_Md_reach_87 y1 x2 y3 y4 x5 v38 s0 n n (0 : Int32) (0 : Int32)) (fun o47 => (if (o47.1) = 0 then (xm_wr (Md_reached s0) x2 v38 (fun a53 => (L_Md_reach_36 y1 y3 y4 n i (x2 + 1) (x5 + 1) ((Md_kinds s0), (Md_values s0), (Md_firsts s0), (Md_manies s0), (Md_said s0), (Md_marked s0), (Md_leaders s0), (Md_trial s0), (Md_shown s0), (Md_end s0), (Md_nodes s0), (Md_features s0), (Md_parts s0), (Md_fields s0), (Md_pushedFeatures s0), (Md_pushedParts s0), (Md_pushed s0), (Md_touched s0), (Md_touches s0), a53, (Md_blocks s0), (Md_newBlocks s0), (Md_places s0), (Md_written s0), (Md_other s0), (Md_length s0))))) else (L_Md_reach_36 y1 y3 y4 n i x2 (x5 + 1) s0)))))))))))))))) := rfl
noncomputable def L_Md_reach_16 (y1 : Int32) (n i : Nat) : Int32 → Int32 → S_Md → MO (Int32 × Int32 × S_Md) := Nat.rec (motive := fun _ => Int32 → Int32 → S_Md → MO (Int32 × Int32 × S_Md)) (fun _ _ _ => none) (fun _ ih x2 x3 s0 => (if x2 ≤ x3 then (xm_p ((x2, x3, s0))) else (xm_rd (Md_reached s0) x3 (fun v26 => (xm_b (m_Md_meant n s0 v26) (fun o27 => (xm_b (L_Md_reach_36 y1 x3 o27 n n x2 (0 : Int32) s0) (fun o54 => (ih (o54.1) (x3 + 1) (o54.2.2)))))))))) i
theorem L_Md_reach_16_s (y1 : Int32) (n i : Nat) (x2 : Int32) (x3 : Int32) (s0 : S_Md) : L_Md_reach_16 y1 n (i + 1) x2 x3 s0 = (if x2 ≤ x3 then (xm_p ((x2, x3, s0))) else (xm_rd (Md_reached s0) x3 (fun v26 => (xm_b (m_Md_meant n s0 v26) (fun o27 => (xm_b (L_Md_reach_36 y1 x3 o27 n n x2 (0 : Int32) s0) (fun o54 => (L_Md_reach_16 y1 n i (o54.1) (x3 + 1) (o54.2.2))))))))) := rfl
noncomputable def m_Md_reach (n : Nat) (s0 : S_Md) (p0 : Int32) : MO (Int32 × S_Md) := (xm_rd (Md_leaders s0) p0 (fun v23 => (xm_wr (Md_reached s0) (0 : Int32) v23 (fun a24 => (xm_b (L_Md_reach_16 p0 n n (1 : Int32) (0 : Int32) ((Md_kinds s0), (Md_values s0), (Md_firsts s0), (Md_manies s0), (Md_said s0), (Md_marked s0), (Md_leaders s0), (Md_trial s0), (Md_shown s0), (Md_end s0), (Md_nodes s0), (Md_features s0), (Md_parts s0), (Md_fields s0), (Md_pushedFeatures s0), (Md_pushedParts s0), (Md_pushed s0), (Md_touched s0), (Md_touches s0), a24, (Md_blocks s0), (Md_newBlocks s0), (Md_places s0), (Md_written s0), (Md_other s0), (Md_length s0))) (fun o59 => (xm_p ((o59.1), (o59.2.2)))))))))
set_option maxHeartbeats 4000000 in
set_option maxRecDepth 100000 in
theorem wl_Md_reach_87 {X : XT} {l : Launch} {D : va_G} {cA : Nat → ClassId} {mc ms : Nat} (F : XF X l D cA b_Md_reach 9 (some FieldType.int) R_Md 1 22 mc ms) (n : Nat) (ob0 : Nat → Nat) (y1 : Int32) (y2 : Int32) (y3 : Int32) (y4 : Int32) (y5 : Int32) (y6 : Int32) (s0 : S_Md)  (ad0 : Nat → Nat) : ∀ (i : Nat) (x7 : Int32) (x8 : Int32)  (nc ns : Nat) (out : Int32 × Int32) (k : KC), L_Md_reach_87 y1 y2 y3 y4 y5 y6 s0 n i x7 x8 = some (out, k) → nc + k.1 ≤ mc → ns + k.2 ≤ ms → (∀ ad : Nat → Nat, XW X 9 ((w_Md cA ob0 ad0  s0)) (nc + k.1) (ns + k.2) 123 [(0, .ref (ob0 0)), (1, .int y1), (2, .int y2), (3, .int y3), (4, .int y4), (5, .int y5), (6, .int y6), (7, .int (out.1)), (8, .int (out.2))] []) → XW X 9 ((w_Md cA ob0 ad0  s0)) nc ns 87 [(0, .ref (ob0 0)), (1, .int y1), (2, .int y2), (3, .int y3), (4, .int y4), (5, .int y5), (6, .int y6), (7, .int x7), (8, .int x8)] [] := by
  intro i
  induction i with
  | zero =>
    intro x7 x8  nc ns out k hm
    replace hm : (none : MO (Int32 × Int32)) = some (out, k) := hm
    cases hm
  | succ i ih =>
    intro x7 x8  nc ns out k hm hc hs KX
    rw [L_Md_reach_87_s] at hm
    refine x_ws (ws' := [((ob0 0), .inr (8, [.ref (ob0 1), .ref (ob0 2), .ref (ob0 3), .ref (ob0 4), .ref (ob0 5), .ref (ob0 6), .ref (ob0 7), .ref (ob0 8), .ref (ob0 9), .int (Md_end s0), .int (Md_nodes s0), .ref (ob0 10), .ref (ob0 11), .int (Md_fields s0), .ref (ob0 12), .ref (ob0 13), .int (Md_pushed s0), .ref (ob0 14), .int (Md_touches s0), .ref (ob0 15), .ref (ob0 16), .ref (ob0 17), .ref (ob0 18), .ref (ad0 0), .ref (ad0 1), .int (Md_length s0)])), ((ob0 1), .inl (cA 1, (Md_kinds s0).1, .inl (Md_kinds s0).2)), ((ob0 2), .inl (cA 0, (Md_values s0).1, .inl (Md_values s0).2)), ((ob0 3), .inl (cA 0, (Md_firsts s0).1, .inl (Md_firsts s0).2)), ((ob0 4), .inl (cA 0, (Md_manies s0).1, .inl (Md_manies s0).2)), ((ob0 5), .inl (cA 2, (Md_said s0).1, .inl (Md_said s0).2)), ((ob0 6), .inl (cA 2, (Md_marked s0).1, .inl (Md_marked s0).2)), ((ob0 7), .inl (cA 0, (Md_leaders s0).1, .inl (Md_leaders s0).2)), ((ob0 8), .inl (cA 0, (Md_trial s0).1, .inl (Md_trial s0).2)), ((ob0 9), .inl (cA 0, (Md_shown s0).1, .inl (Md_shown s0).2)), ((ob0 10), .inl (cA 0, (Md_features s0).1, .inl (Md_features s0).2)), ((ob0 11), .inl (cA 0, (Md_parts s0).1, .inl (Md_parts s0).2)), ((ob0 12), .inl (cA 0, (Md_pushedFeatures s0).1, .inl (Md_pushedFeatures s0).2)), ((ob0 13), .inl (cA 0, (Md_pushedParts s0).1, .inl (Md_pushedParts s0).2)), ((ob0 14), .inl (cA 0, (Md_touched s0).1, .inl (Md_touched s0).2)), ((ob0 15), .inl (cA 0, (Md_reached s0).1, .inl (Md_reached s0).2)), ((ob0 16), .inl (cA 0, (Md_blocks s0).1, .inl (Md_blocks s0).2)), ((ob0 17), .inl (cA 0, (Md_newBlocks s0).1, .inl (Md_newBlocks s0).2)), ((ob0 18), .inl (cA 0, (Md_places s0).1, .inl (Md_places s0).2)), ((ad0 0), .inl (cA 0, (Md_written s0).1, .inl (Md_written s0).2)), ((ad0 1), .inl (cA 0, (Md_other s0).1, .inl (Md_other s0).2))]) rfl ?_
    refine x_iload F d_Md_reach_87 8 rfl ?_
    refine x_iload_n F d_Md_reach_89 2 rfl rfl ?_
    refine x_icmp_ge F 123 d_Md_reach_90 (by decide) (fun c39 => ?_) (fun c39 => ?_)
    · replace hm := xm_t hm c39
      replace hm := xm_p_some hm
      obtain ⟨eo, c_o, d_o⟩ := hm
      subst eo
      refine x_sub [0, 1, 2, 3, 4, 5, 6, 7, 8, 9, 10, 11, 12, 13, 14, 15, 16, 17, 18, 19, 20] (by decide) ?_ (x_lv [0, 1, 2, 3, 4, 5, 6, 7, 8] ?_ (x_cs (by omega) (by omega) (KX (fun _ => 0))))
      · rfl
      · rfl
    · replace hm := xm_f hm c39
      refine x_iload F d_Md_reach_93 7 rfl ?_
      refine x_if_ne F 123 d_Md_reach_95 (by decide) (fun c40 => ?_) (fun c40 => ?_)
      · replace hm := xm_f hm c40
        replace hm := xm_p_some hm
        obtain ⟨eo, c_o, d_o⟩ := hm
        subst eo
        refine x_sub [0, 1, 2, 3, 4, 5, 6, 7, 8, 9, 10, 11, 12, 13, 14, 15, 16, 17, 18, 19, 20] (by decide) ?_ (x_lv [0, 1, 2, 3, 4, 5, 6, 7, 8] ?_ (x_cs (by omega) (by omega) (KX (fun _ => 0))))
        · rfl
        · rfl
      · replace hm := xm_t hm c40
        refine x_aload_n F d_Md_reach_98 0 rfl rfl ?_
        refine x_get F ck_Md hin_Md 0 19 rfl (by decide) kw_653 rfl rfl d_Md_reach_99 ?_
        refine x_iload F d_Md_reach_102 8 rfl ?_
        replace hm := xm_rd_some hm
        obtain ⟨v41, e_v41, b_v41, hm⟩ := hm
        refine x_iald (x := (Md_reached s0)) F 15 rfl e_v41 b_v41 d_Md_reach_104 ?_
        refine x_iload F d_Md_reach_105 6 rfl ?_
        replace hm := xm_b_some hm
        obtain ⟨j42, k43, k44, h45, hm, c_j42, d_j42⟩ := hm
        refine x_mrg (k1 := k43) (M := 115) (v := j42) (st := []) ?_ (fun J => ?_)
        · skip
          refine x_istore (lv' := [(7, .int j42), (0, .ref (ob0 0)), (1, .int y1), (2, .int y2), (3, .int y3), (4, .int y4), (5, .int y5), (6, .int y6), (8, .int x8)]) F d_Md_reach_115 (by decide) rfl ?_
          refine x_iinc (v := (x8 + 1)) (lv' := [(8, .int (x8 + 1)), (7, .int j42), (0, .ref (ob0 0)), (1, .int y1), (2, .int y2), (3, .int y3), (4, .int y4), (5, .int y5), (6, .int y6)]) F d_Md_reach_117 8 rfl rfl (by decide) rfl ?_
          refine x_goto F 87 d_Md_reach_120 (by decide) ?_
          refine x_sub [0, 1, 2, 3, 4, 5, 6, 7, 8, 9, 10, 11, 12, 13, 14, 15, 16, 17, 18, 19, 20] (by decide) ?_ (x_lv [2, 3, 4, 5, 6, 7, 8, 1, 0] ?_ (ih j42 (x8 + 1)  _ _ out k44 hm (by omega) (by omega) (fun ad => x_cs (by omega) (by omega) (KX ad))))
          · rfl
          · rfl
        · replace hm := h45
          refine x_icmp_ne F 114 d_Md_reach_107 (by decide) (fun c46 => ?_) (fun c46 => ?_)
          · replace hm := xm_f hm c46
            refine x_iconst (v := (0 : Int32)) F d_Md_reach_114 (by decide) ?_
            replace hm := xm_p_some hm
            obtain ⟨eo, c_o, d_o⟩ := hm
            subst eo
            exact x_cs (by omega) (by omega) J
          · replace hm := xm_t hm c46
            refine x_iconst (v := (1 : Int32)) F d_Md_reach_110 (by decide) ?_
            refine x_goto F 115 d_Md_reach_111 (by decide) ?_
            replace hm := xm_p_some hm
            obtain ⟨eo, c_o, d_o⟩ := hm
            subst eo
            exact x_cs (by omega) (by omega) J
set_option maxHeartbeats 4000000 in
set_option maxRecDepth 100000 in
theorem wl_Md_reach_36 {X : XT} {l : Launch} {D : va_G} {cA : Nat → ClassId} {mc ms : Nat} (F : XF X l D cA b_Md_reach 9 (some FieldType.int) R_Md 1 22 mc ms) (n : Nat) (ob0 : Nat → Nat) (y1 : Int32) (y3 : Int32) (y4 : Int32)   : ∀ (i : Nat) (x2 : Int32) (x5 : Int32) (s0 : S_Md) (ad0 : Nat → Nat) (nc ns : Nat) (out : Int32 × Int32 × S_Md) (k : KC), L_Md_reach_36 y1 y3 y4 n i x2 x5 s0 = some (out, k) → nc + k.1 ≤ mc → ns + k.2 ≤ ms → (∀ ad : Nat → Nat, XW X 9 ((w_Md cA ob0 ad  (out.2.2))) (nc + k.1) (ns + k.2) 145 [(0, .ref (ob0 0)), (1, .int y1), (2, .int (out.1)), (3, .int y3), (4, .int y4), (5, .int (out.2.1))] []) → XW X 9 ((w_Md cA ob0 ad0  s0)) nc ns 36 [(0, .ref (ob0 0)), (1, .int y1), (2, .int x2), (3, .int y3), (4, .int y4), (5, .int x5)] [] := by
  intro i
  induction i with
  | zero =>
    intro x2 x5 s0 ad0 nc ns out k hm
    replace hm : (none : MO (Int32 × Int32 × S_Md)) = some (out, k) := hm
    cases hm
  | succ i ih =>
    intro x2 x5 s0 ad0 nc ns out k hm hc hs KX
    rw [L_Md_reach_36_s] at hm
    refine x_ws (ws' := [((ob0 0), .inr (8, [.ref (ob0 1), .ref (ob0 2), .ref (ob0 3), .ref (ob0 4), .ref (ob0 5), .ref (ob0 6), .ref (ob0 7), .ref (ob0 8), .ref (ob0 9), .int (Md_end s0), .int (Md_nodes s0), .ref (ob0 10), .ref (ob0 11), .int (Md_fields s0), .ref (ob0 12), .ref (ob0 13), .int (Md_pushed s0), .ref (ob0 14), .int (Md_touches s0), .ref (ob0 15), .ref (ob0 16), .ref (ob0 17), .ref (ob0 18), .ref (ad0 0), .ref (ad0 1), .int (Md_length s0)])), ((ob0 1), .inl (cA 1, (Md_kinds s0).1, .inl (Md_kinds s0).2)), ((ob0 2), .inl (cA 0, (Md_values s0).1, .inl (Md_values s0).2)), ((ob0 3), .inl (cA 0, (Md_firsts s0).1, .inl (Md_firsts s0).2)), ((ob0 4), .inl (cA 0, (Md_manies s0).1, .inl (Md_manies s0).2)), ((ob0 5), .inl (cA 2, (Md_said s0).1, .inl (Md_said s0).2)), ((ob0 6), .inl (cA 2, (Md_marked s0).1, .inl (Md_marked s0).2)), ((ob0 7), .inl (cA 0, (Md_leaders s0).1, .inl (Md_leaders s0).2)), ((ob0 8), .inl (cA 0, (Md_trial s0).1, .inl (Md_trial s0).2)), ((ob0 9), .inl (cA 0, (Md_shown s0).1, .inl (Md_shown s0).2)), ((ob0 10), .inl (cA 0, (Md_features s0).1, .inl (Md_features s0).2)), ((ob0 11), .inl (cA 0, (Md_parts s0).1, .inl (Md_parts s0).2)), ((ob0 12), .inl (cA 0, (Md_pushedFeatures s0).1, .inl (Md_pushedFeatures s0).2)), ((ob0 13), .inl (cA 0, (Md_pushedParts s0).1, .inl (Md_pushedParts s0).2)), ((ob0 14), .inl (cA 0, (Md_touched s0).1, .inl (Md_touched s0).2)), ((ob0 15), .inl (cA 0, (Md_reached s0).1, .inl (Md_reached s0).2)), ((ob0 16), .inl (cA 0, (Md_blocks s0).1, .inl (Md_blocks s0).2)), ((ob0 17), .inl (cA 0, (Md_newBlocks s0).1, .inl (Md_newBlocks s0).2)), ((ob0 18), .inl (cA 0, (Md_places s0).1, .inl (Md_places s0).2)), ((ad0 0), .inl (cA 0, (Md_written s0).1, .inl (Md_written s0).2)), ((ad0 1), .inl (cA 0, (Md_other s0).1, .inl (Md_other s0).2))]) rfl ?_
    refine x_iload F d_Md_reach_36 5 rfl ?_
    refine x_aload_n F d_Md_reach_38 0 rfl rfl ?_
    refine x_get F ck_Md hin_Md 0 3 rfl (by decide) kw_637 rfl rfl d_Md_reach_39 ?_
    refine x_iload F d_Md_reach_42 4 rfl ?_
    replace hm := xm_rd_some hm
    obtain ⟨v32, e_v32, b_v32, hm⟩ := hm
    refine x_iald (x := (Md_manies s0)) F 4 rfl e_v32 b_v32 d_Md_reach_44 ?_
    refine x_icmp_ge F 145 d_Md_reach_45 (by decide) (fun c33 => ?_) (fun c33 => ?_)
    · replace hm := xm_t hm c33
      replace hm := xm_p_some hm
      obtain ⟨eo, c_o, d_o⟩ := hm
      subst eo
      refine x_sub [0, 1, 2, 3, 4, 5, 6, 7, 8, 9, 10, 11, 12, 13, 14, 15, 16, 17, 18, 19, 20] (by decide) ?_ (x_lv [0, 1, 2, 3, 4, 5] ?_ (x_cs (by omega) (by omega) (KX ad0)))
      · rfl
      · rfl
    · replace hm := xm_f hm c33
      refine x_aload_n F d_Md_reach_48 0 rfl rfl ?_
      refine x_get F ck_Md hin_Md 0 0 rfl (by decide) kw_634 rfl rfl d_Md_reach_49 ?_
      refine x_iload F d_Md_reach_52 4 rfl ?_
      replace hm := xm_rd_some hm
      obtain ⟨v34, e_v34, b_v34, hm⟩ := hm
      refine x_bald (x := (Md_kinds s0)) F 1 rfl e_v34 b_v34 d_Md_reach_54 ?_
      refine x_iconst (v := (3 : Int32)) F d_Md_reach_55 (by decide) ?_
      refine x_icmp_lt F 145 d_Md_reach_56 (by decide) (fun c35 => ?_) (fun c35 => ?_)
      · replace hm := xm_t hm c35
        replace hm := xm_p_some hm
        obtain ⟨eo, c_o, d_o⟩ := hm
        subst eo
        refine x_sub [0, 1, 2, 3, 4, 5, 6, 7, 8, 9, 10, 11, 12, 13, 14, 15, 16, 17, 18, 19, 20] (by decide) ?_ (x_lv [0, 1, 2, 3, 4, 5] ?_ (x_cs (by omega) (by omega) (KX ad0)))
        · rfl
        · rfl
      · replace hm := xm_f hm c35
        refine x_aload_n F d_Md_reach_59 0 rfl rfl ?_
        refine x_get F ck_Md hin_Md 0 6 rfl (by decide) kw_640 rfl rfl d_Md_reach_60 ?_
        refine x_aload_n F d_Md_reach_63 0 rfl rfl ?_
        refine x_get F ck_Md hin_Md 0 12 rfl (by decide) kw_646 rfl rfl d_Md_reach_64 ?_
        refine x_aload_n F d_Md_reach_67 0 rfl rfl ?_
        refine x_get F ck_Md hin_Md 0 2 rfl (by decide) kw_636 rfl rfl d_Md_reach_68 ?_
        refine x_iload F d_Md_reach_71 4 rfl ?_
        replace hm := xm_rd_some hm
        obtain ⟨v36, e_v36, b_v36, hm⟩ := hm
        refine x_iald (x := (Md_firsts s0)) F 3 rfl e_v36 b_v36 d_Md_reach_73 ?_
        refine x_iload F d_Md_reach_74 5 rfl ?_
        refine x_iadd F d_Md_reach_76 ?_
        replace hm := xm_rd_some hm
        obtain ⟨v37, e_v37, b_v37, hm⟩ := hm
        refine x_iald (x := (Md_parts s0)) F 11 rfl e_v37 b_v37 d_Md_reach_77 ?_
        replace hm := xm_rd_some hm
        obtain ⟨v38, e_v38, b_v38, hm⟩ := hm
        refine x_iald (x := (Md_leaders s0)) F 7 rfl e_v38 b_v38 d_Md_reach_78 ?_
        refine x_istore (lv' := [(6, .int v38), (0, .ref (ob0 0)), (1, .int y1), (2, .int x2), (3, .int y3), (4, .int y4), (5, .int x5)]) F d_Md_reach_79 (by decide) rfl ?_
        refine x_iconst (v := (0 : Int32)) F d_Md_reach_81 (by decide) ?_
        refine x_istore (lv' := [(7, .int (0 : Int32)), (6, .int v38), (0, .ref (ob0 0)), (1, .int y1), (2, .int x2), (3, .int y3), (4, .int y4), (5, .int x5)]) F d_Md_reach_82 (by decide) rfl ?_
        refine x_iconst (v := (0 : Int32)) F d_Md_reach_84 (by decide) ?_
        refine x_istore (lv' := [(8, .int (0 : Int32)), (7, .int (0 : Int32)), (6, .int v38), (0, .ref (ob0 0)), (1, .int y1), (2, .int x2), (3, .int y3), (4, .int y4), (5, .int x5)]) F d_Md_reach_85 (by decide) rfl ?_
        replace hm := xm_b_some hm
        obtain ⟨o47, k48, k49, h50, hm, c_o47, d_o47⟩ := hm
        refine x_sub [0, 1, 2, 3, 4, 5, 6, 7, 8, 9, 10, 11, 12, 13, 14, 15, 16, 17, 18, 19, 20] (by decide) ?_ (x_lv [3, 4, 5, 6, 7, 8, 2, 1, 0] ?_ (wl_Md_reach_87 F n ob0 y1 x2 y3 y4 x5 v38 s0 ad0 n (0 : Int32) (0 : Int32)  _ _ o47 k48 h50 (by omega) (by omega) (fun ad51 => ?_)))
        · rfl
        · rfl
        refine x_nf2 (ws' := [((ob0 0), .inr (8, [.ref (ob0 1), .ref (ob0 2), .ref (ob0 3), .ref (ob0 4), .ref (ob0 5), .ref (ob0 6), .ref (ob0 7), .ref (ob0 8), .ref (ob0 9), .int (Md_end s0), .int (Md_nodes s0), .ref (ob0 10), .ref (ob0 11), .int (Md_fields s0), .ref (ob0 12), .ref (ob0 13), .int (Md_pushed s0), .ref (ob0 14), .int (Md_touches s0), .ref (ob0 15), .ref (ob0 16), .ref (ob0 17), .ref (ob0 18), .ref (ad0 0), .ref (ad0 1), .int (Md_length s0)])), ((ob0 1), .inl (cA 1, (Md_kinds s0).1, .inl (Md_kinds s0).2)), ((ob0 2), .inl (cA 0, (Md_values s0).1, .inl (Md_values s0).2)), ((ob0 3), .inl (cA 0, (Md_firsts s0).1, .inl (Md_firsts s0).2)), ((ob0 4), .inl (cA 0, (Md_manies s0).1, .inl (Md_manies s0).2)), ((ob0 5), .inl (cA 2, (Md_said s0).1, .inl (Md_said s0).2)), ((ob0 6), .inl (cA 2, (Md_marked s0).1, .inl (Md_marked s0).2)), ((ob0 7), .inl (cA 0, (Md_leaders s0).1, .inl (Md_leaders s0).2)), ((ob0 8), .inl (cA 0, (Md_trial s0).1, .inl (Md_trial s0).2)), ((ob0 9), .inl (cA 0, (Md_shown s0).1, .inl (Md_shown s0).2)), ((ob0 10), .inl (cA 0, (Md_features s0).1, .inl (Md_features s0).2)), ((ob0 11), .inl (cA 0, (Md_parts s0).1, .inl (Md_parts s0).2)), ((ob0 12), .inl (cA 0, (Md_pushedFeatures s0).1, .inl (Md_pushedFeatures s0).2)), ((ob0 13), .inl (cA 0, (Md_pushedParts s0).1, .inl (Md_pushedParts s0).2)), ((ob0 14), .inl (cA 0, (Md_touched s0).1, .inl (Md_touched s0).2)), ((ob0 15), .inl (cA 0, (Md_reached s0).1, .inl (Md_reached s0).2)), ((ob0 16), .inl (cA 0, (Md_blocks s0).1, .inl (Md_blocks s0).2)), ((ob0 17), .inl (cA 0, (Md_newBlocks s0).1, .inl (Md_newBlocks s0).2)), ((ob0 18), .inl (cA 0, (Md_places s0).1, .inl (Md_places s0).2)), ((ad0 0), .inl (cA 0, (Md_written s0).1, .inl (Md_written s0).2)), ((ad0 1), .inl (cA 0, (Md_other s0).1, .inl (Md_other s0).2))]) (lv' := [(0, .ref (ob0 0)), (1, .int y1), (2, .int x2), (3, .int y3), (4, .int y4), (5, .int x5), (6, .int v38), (7, .int (o47.1)), (8, .int (o47.2))]) rfl rfl ?_
        refine x_iload F d_Md_reach_123 7 rfl ?_
        refine x_if_ne F 139 d_Md_reach_125 (by decide) (fun c52 => ?_) (fun c52 => ?_)
        · replace hm := xm_f hm c52
          refine x_iinc (v := (x5 + 1)) (lv' := [(5, .int (x5 + 1)), (0, .ref (ob0 0)), (1, .int y1), (2, .int x2), (3, .int y3), (4, .int y4), (6, .int v38), (7, .int (o47.1)), (8, .int (o47.2))]) F d_Md_reach_139 5 rfl rfl (by decide) rfl ?_
          refine x_goto F 36 d_Md_reach_142 (by decide) ?_
          refine x_sub [0, 1, 2, 3, 4, 5, 6, 7, 8, 9, 10, 11, 12, 13, 14, 15, 16, 17, 18, 19, 20] (by decide) ?_ (x_lv [1, 2, 3, 4, 5, 0] ?_ (ih x2 (x5 + 1) s0 ad0 _ _ out k49 hm (by omega) (by omega) (fun ad => x_cs (by omega) (by omega) (KX ad))))
          · rfl
          · rfl
        · replace hm := xm_t hm c52
          refine x_aload_n F d_Md_reach_128 0 rfl rfl ?_
          refine x_get F ck_Md hin_Md 0 19 rfl (by decide) kw_653 rfl rfl d_Md_reach_129 ?_
          refine x_iload_n F d_Md_reach_132 2 rfl rfl ?_
          refine x_iload F d_Md_reach_133 6 rfl ?_
          replace hm := xm_wr_some hm
          obtain ⟨a53, e_a53, b_a53, hm⟩ := hm
          refine x_iast (x := (Md_reached s0)) (x' := a53) (ws' := [((ob0 0), .inr (8, [.ref (ob0 1), .ref (ob0 2), .ref (ob0 3), .ref (ob0 4), .ref (ob0 5), .ref (ob0 6), .ref (ob0 7), .ref (ob0 8), .ref (ob0 9), .int (Md_end s0), .int (Md_nodes s0), .ref (ob0 10), .ref (ob0 11), .int (Md_fields s0), .ref (ob0 12), .ref (ob0 13), .int (Md_pushed s0), .ref (ob0 14), .int (Md_touches s0), .ref (ob0 15), .ref (ob0 16), .ref (ob0 17), .ref (ob0 18), .ref (ad0 0), .ref (ad0 1), .int (Md_length s0)])), ((ob0 1), .inl (cA 1, (Md_kinds s0).1, .inl (Md_kinds s0).2)), ((ob0 2), .inl (cA 0, (Md_values s0).1, .inl (Md_values s0).2)), ((ob0 3), .inl (cA 0, (Md_firsts s0).1, .inl (Md_firsts s0).2)), ((ob0 4), .inl (cA 0, (Md_manies s0).1, .inl (Md_manies s0).2)), ((ob0 5), .inl (cA 2, (Md_said s0).1, .inl (Md_said s0).2)), ((ob0 6), .inl (cA 2, (Md_marked s0).1, .inl (Md_marked s0).2)), ((ob0 7), .inl (cA 0, (Md_leaders s0).1, .inl (Md_leaders s0).2)), ((ob0 8), .inl (cA 0, (Md_trial s0).1, .inl (Md_trial s0).2)), ((ob0 9), .inl (cA 0, (Md_shown s0).1, .inl (Md_shown s0).2)), ((ob0 10), .inl (cA 0, (Md_features s0).1, .inl (Md_features s0).2)), ((ob0 11), .inl (cA 0, (Md_parts s0).1, .inl (Md_parts s0).2)), ((ob0 12), .inl (cA 0, (Md_pushedFeatures s0).1, .inl (Md_pushedFeatures s0).2)), ((ob0 13), .inl (cA 0, (Md_pushedParts s0).1, .inl (Md_pushedParts s0).2)), ((ob0 14), .inl (cA 0, (Md_touched s0).1, .inl (Md_touched s0).2)), ((ob0 15), .inl (cA 0, a53.1, .inl a53.2)), ((ob0 16), .inl (cA 0, (Md_blocks s0).1, .inl (Md_blocks s0).2)), ((ob0 17), .inl (cA 0, (Md_newBlocks s0).1, .inl (Md_newBlocks s0).2)), ((ob0 18), .inl (cA 0, (Md_places s0).1, .inl (Md_places s0).2)), ((ad0 0), .inl (cA 0, (Md_written s0).1, .inl (Md_written s0).2)), ((ad0 1), .inl (cA 0, (Md_other s0).1, .inl (Md_other s0).2))]) F 15 rfl e_a53 b_a53 rfl d_Md_reach_135 ?_
          refine x_iinc (v := (x2 + 1)) (lv' := [(2, .int (x2 + 1)), (0, .ref (ob0 0)), (1, .int y1), (3, .int y3), (4, .int y4), (5, .int x5), (6, .int v38), (7, .int (o47.1)), (8, .int (o47.2))]) F d_Md_reach_136 2 rfl rfl (by decide) rfl ?_
          refine x_iinc (v := (x5 + 1)) (lv' := [(5, .int (x5 + 1)), (2, .int (x2 + 1)), (0, .ref (ob0 0)), (1, .int y1), (3, .int y3), (4, .int y4), (6, .int v38), (7, .int (o47.1)), (8, .int (o47.2))]) F d_Md_reach_139 5 rfl rfl (by decide) rfl ?_
          refine x_goto F 36 d_Md_reach_142 (by decide) ?_
          refine x_sub [0, 1, 2, 3, 4, 5, 6, 7, 8, 9, 10, 11, 12, 13, 14, 15, 16, 17, 18, 19, 20] (by decide) ?_ (x_lv [2, 3, 1, 4, 5, 0] ?_ (ih (x2 + 1) (x5 + 1) ((Md_kinds s0), (Md_values s0), (Md_firsts s0), (Md_manies s0), (Md_said s0), (Md_marked s0), (Md_leaders s0), (Md_trial s0), (Md_shown s0), (Md_end s0), (Md_nodes s0), (Md_features s0), (Md_parts s0), (Md_fields s0), (Md_pushedFeatures s0), (Md_pushedParts s0), (Md_pushed s0), (Md_touched s0), (Md_touches s0), a53, (Md_blocks s0), (Md_newBlocks s0), (Md_places s0), (Md_written s0), (Md_other s0), (Md_length s0)) ad0 _ _ out k49 hm (by omega) (by omega) (fun ad => x_cs (by omega) (by omega) (KX ad))))
          · rfl
          · rfl
set_option maxHeartbeats 4000000 in
set_option maxRecDepth 100000 in
theorem wl_Md_reach_16 {X : XT} {l : Launch} {D : va_G} {cA : Nat → ClassId} {mc ms : Nat} (F : XF X l D cA b_Md_reach 9 (some FieldType.int) R_Md 1 22 mc ms) (n : Nat) (ob0 : Nat → Nat) (y1 : Int32)   : ∀ (i : Nat) (x2 : Int32) (x3 : Int32) (s0 : S_Md) (ad0 : Nat → Nat) (nc ns : Nat) (out : Int32 × Int32 × S_Md) (k : KC), L_Md_reach_16 y1 n i x2 x3 s0 = some (out, k) → nc + k.1 ≤ mc → ns + k.2 ≤ ms → (∀ ad : Nat → Nat, XW X 9 ((w_Md cA ob0 ad  (out.2.2))) (nc + k.1) (ns + k.2) 151 [(0, .ref (ob0 0)), (1, .int y1), (2, .int (out.1)), (3, .int (out.2.1))] []) → XW X 9 ((w_Md cA ob0 ad0  s0)) nc ns 16 [(0, .ref (ob0 0)), (1, .int y1), (2, .int x2), (3, .int x3)] [] := by
  intro i
  induction i with
  | zero =>
    intro x2 x3 s0 ad0 nc ns out k hm
    replace hm : (none : MO (Int32 × Int32 × S_Md)) = some (out, k) := hm
    cases hm
  | succ i ih =>
    intro x2 x3 s0 ad0 nc ns out k hm hc hs KX
    rw [L_Md_reach_16_s] at hm
    refine x_ws (ws' := [((ob0 0), .inr (8, [.ref (ob0 1), .ref (ob0 2), .ref (ob0 3), .ref (ob0 4), .ref (ob0 5), .ref (ob0 6), .ref (ob0 7), .ref (ob0 8), .ref (ob0 9), .int (Md_end s0), .int (Md_nodes s0), .ref (ob0 10), .ref (ob0 11), .int (Md_fields s0), .ref (ob0 12), .ref (ob0 13), .int (Md_pushed s0), .ref (ob0 14), .int (Md_touches s0), .ref (ob0 15), .ref (ob0 16), .ref (ob0 17), .ref (ob0 18), .ref (ad0 0), .ref (ad0 1), .int (Md_length s0)])), ((ob0 1), .inl (cA 1, (Md_kinds s0).1, .inl (Md_kinds s0).2)), ((ob0 2), .inl (cA 0, (Md_values s0).1, .inl (Md_values s0).2)), ((ob0 3), .inl (cA 0, (Md_firsts s0).1, .inl (Md_firsts s0).2)), ((ob0 4), .inl (cA 0, (Md_manies s0).1, .inl (Md_manies s0).2)), ((ob0 5), .inl (cA 2, (Md_said s0).1, .inl (Md_said s0).2)), ((ob0 6), .inl (cA 2, (Md_marked s0).1, .inl (Md_marked s0).2)), ((ob0 7), .inl (cA 0, (Md_leaders s0).1, .inl (Md_leaders s0).2)), ((ob0 8), .inl (cA 0, (Md_trial s0).1, .inl (Md_trial s0).2)), ((ob0 9), .inl (cA 0, (Md_shown s0).1, .inl (Md_shown s0).2)), ((ob0 10), .inl (cA 0, (Md_features s0).1, .inl (Md_features s0).2)), ((ob0 11), .inl (cA 0, (Md_parts s0).1, .inl (Md_parts s0).2)), ((ob0 12), .inl (cA 0, (Md_pushedFeatures s0).1, .inl (Md_pushedFeatures s0).2)), ((ob0 13), .inl (cA 0, (Md_pushedParts s0).1, .inl (Md_pushedParts s0).2)), ((ob0 14), .inl (cA 0, (Md_touched s0).1, .inl (Md_touched s0).2)), ((ob0 15), .inl (cA 0, (Md_reached s0).1, .inl (Md_reached s0).2)), ((ob0 16), .inl (cA 0, (Md_blocks s0).1, .inl (Md_blocks s0).2)), ((ob0 17), .inl (cA 0, (Md_newBlocks s0).1, .inl (Md_newBlocks s0).2)), ((ob0 18), .inl (cA 0, (Md_places s0).1, .inl (Md_places s0).2)), ((ad0 0), .inl (cA 0, (Md_written s0).1, .inl (Md_written s0).2)), ((ad0 1), .inl (cA 0, (Md_other s0).1, .inl (Md_other s0).2))]) rfl ?_
    refine x_iload_n F d_Md_reach_16 3 rfl rfl ?_
    refine x_iload_n F d_Md_reach_17 2 rfl rfl ?_
    refine x_icmp_ge F 151 d_Md_reach_18 (by decide) (fun c25 => ?_) (fun c25 => ?_)
    · replace hm := xm_t hm c25
      replace hm := xm_p_some hm
      obtain ⟨eo, c_o, d_o⟩ := hm
      subst eo
      refine x_sub [0, 1, 2, 3, 4, 5, 6, 7, 8, 9, 10, 11, 12, 13, 14, 15, 16, 17, 18, 19, 20] (by decide) ?_ (x_lv [0, 1, 2, 3] ?_ (x_cs (by omega) (by omega) (KX ad0)))
      · rfl
      · rfl
    · replace hm := xm_f hm c25
      refine x_aload_n F d_Md_reach_21 0 rfl rfl ?_
      refine x_aload_n F d_Md_reach_22 0 rfl rfl ?_
      refine x_get F ck_Md hin_Md 0 19 rfl (by decide) kw_653 rfl rfl d_Md_reach_23 ?_
      refine x_iload_n F d_Md_reach_26 3 rfl rfl ?_
      replace hm := xm_rd_some hm
      obtain ⟨v26, e_v26, b_v26, hm⟩ := hm
      refine x_iald (x := (Md_reached s0)) F 15 rfl e_v26 b_v26 d_Md_reach_27 ?_
      replace hm := xm_b_some hm
      obtain ⟨o27, k28, k29, h30, hm, c_o27, d_o27⟩ := hm
      refine x_callV (n := 1) (C := R_Md) (wr := []) F (c_Md_meant l D cA n ob0 ad0 s0 v26 o27 k28 h30) kw_786 kw_783 kw_785 kw_27 kw_47 ⟨rfl, by decide, by decide, by decide +kernel⟩ rfl (by decide) (by decide) (ci := 8) rfl rfl 0 rfl [0, 1, 2, 3, 4, 5, 6, 7, 8, 9, 10, 11, 12, 13, 14, 15, 16, 17, 18, 19, 20] [] rfl rfl (by decide) (by decide) (by decide) rfl (Nat.le_of_ble_eq_true rfl) (by omega) (by omega) d_Md_reach_28 (fun ad31 => ?_)
      refine x_nf (ws' := [((ob0 0), .inr (8, [.ref (ob0 1), .ref (ob0 2), .ref (ob0 3), .ref (ob0 4), .ref (ob0 5), .ref (ob0 6), .ref (ob0 7), .ref (ob0 8), .ref (ob0 9), .int (Md_end s0), .int (Md_nodes s0), .ref (ob0 10), .ref (ob0 11), .int (Md_fields s0), .ref (ob0 12), .ref (ob0 13), .int (Md_pushed s0), .ref (ob0 14), .int (Md_touches s0), .ref (ob0 15), .ref (ob0 16), .ref (ob0 17), .ref (ob0 18), .ref (ad0 0), .ref (ad0 1), .int (Md_length s0)])), ((ob0 1), .inl (cA 1, (Md_kinds s0).1, .inl (Md_kinds s0).2)), ((ob0 2), .inl (cA 0, (Md_values s0).1, .inl (Md_values s0).2)), ((ob0 3), .inl (cA 0, (Md_firsts s0).1, .inl (Md_firsts s0).2)), ((ob0 4), .inl (cA 0, (Md_manies s0).1, .inl (Md_manies s0).2)), ((ob0 5), .inl (cA 2, (Md_said s0).1, .inl (Md_said s0).2)), ((ob0 6), .inl (cA 2, (Md_marked s0).1, .inl (Md_marked s0).2)), ((ob0 7), .inl (cA 0, (Md_leaders s0).1, .inl (Md_leaders s0).2)), ((ob0 8), .inl (cA 0, (Md_trial s0).1, .inl (Md_trial s0).2)), ((ob0 9), .inl (cA 0, (Md_shown s0).1, .inl (Md_shown s0).2)), ((ob0 10), .inl (cA 0, (Md_features s0).1, .inl (Md_features s0).2)), ((ob0 11), .inl (cA 0, (Md_parts s0).1, .inl (Md_parts s0).2)), ((ob0 12), .inl (cA 0, (Md_pushedFeatures s0).1, .inl (Md_pushedFeatures s0).2)), ((ob0 13), .inl (cA 0, (Md_pushedParts s0).1, .inl (Md_pushedParts s0).2)), ((ob0 14), .inl (cA 0, (Md_touched s0).1, .inl (Md_touched s0).2)), ((ob0 15), .inl (cA 0, (Md_reached s0).1, .inl (Md_reached s0).2)), ((ob0 16), .inl (cA 0, (Md_blocks s0).1, .inl (Md_blocks s0).2)), ((ob0 17), .inl (cA 0, (Md_newBlocks s0).1, .inl (Md_newBlocks s0).2)), ((ob0 18), .inl (cA 0, (Md_places s0).1, .inl (Md_places s0).2)), ((ad0 0), .inl (cA 0, (Md_written s0).1, .inl (Md_written s0).2)), ((ad0 1), .inl (cA 0, (Md_other s0).1, .inl (Md_other s0).2))]) (st' := [.int o27]) rfl rfl ?_
      refine x_istore (lv' := [(4, .int o27), (0, .ref (ob0 0)), (1, .int y1), (2, .int x2), (3, .int x3)]) F d_Md_reach_31 (by decide) rfl ?_
      refine x_iconst (v := (0 : Int32)) F d_Md_reach_33 (by decide) ?_
      refine x_istore (lv' := [(5, .int (0 : Int32)), (4, .int o27), (0, .ref (ob0 0)), (1, .int y1), (2, .int x2), (3, .int x3)]) F d_Md_reach_34 (by decide) rfl ?_
      replace hm := xm_b_some hm
      obtain ⟨o54, k55, k56, h57, hm, c_o54, d_o54⟩ := hm
      refine x_sub [0, 1, 2, 3, 4, 5, 6, 7, 8, 9, 10, 11, 12, 13, 14, 15, 16, 17, 18, 19, 20] (by decide) ?_ (x_lv [2, 3, 4, 5, 1, 0] ?_ (wl_Md_reach_36 F n ob0 y1 x3 o27  n x2 (0 : Int32) s0 ad0 _ _ o54 k55 h57 (by omega) (by omega) (fun ad58 => ?_)))
      · rfl
      · rfl
      refine x_nf2 (ws' := [((ob0 0), .inr (8, [.ref (ob0 1), .ref (ob0 2), .ref (ob0 3), .ref (ob0 4), .ref (ob0 5), .ref (ob0 6), .ref (ob0 7), .ref (ob0 8), .ref (ob0 9), .int (Md_end (o54.2.2)), .int (Md_nodes (o54.2.2)), .ref (ob0 10), .ref (ob0 11), .int (Md_fields (o54.2.2)), .ref (ob0 12), .ref (ob0 13), .int (Md_pushed (o54.2.2)), .ref (ob0 14), .int (Md_touches (o54.2.2)), .ref (ob0 15), .ref (ob0 16), .ref (ob0 17), .ref (ob0 18), .ref (ad58 0), .ref (ad58 1), .int (Md_length (o54.2.2))])), ((ob0 1), .inl (cA 1, (Md_kinds (o54.2.2)).1, .inl (Md_kinds (o54.2.2)).2)), ((ob0 2), .inl (cA 0, (Md_values (o54.2.2)).1, .inl (Md_values (o54.2.2)).2)), ((ob0 3), .inl (cA 0, (Md_firsts (o54.2.2)).1, .inl (Md_firsts (o54.2.2)).2)), ((ob0 4), .inl (cA 0, (Md_manies (o54.2.2)).1, .inl (Md_manies (o54.2.2)).2)), ((ob0 5), .inl (cA 2, (Md_said (o54.2.2)).1, .inl (Md_said (o54.2.2)).2)), ((ob0 6), .inl (cA 2, (Md_marked (o54.2.2)).1, .inl (Md_marked (o54.2.2)).2)), ((ob0 7), .inl (cA 0, (Md_leaders (o54.2.2)).1, .inl (Md_leaders (o54.2.2)).2)), ((ob0 8), .inl (cA 0, (Md_trial (o54.2.2)).1, .inl (Md_trial (o54.2.2)).2)), ((ob0 9), .inl (cA 0, (Md_shown (o54.2.2)).1, .inl (Md_shown (o54.2.2)).2)), ((ob0 10), .inl (cA 0, (Md_features (o54.2.2)).1, .inl (Md_features (o54.2.2)).2)), ((ob0 11), .inl (cA 0, (Md_parts (o54.2.2)).1, .inl (Md_parts (o54.2.2)).2)), ((ob0 12), .inl (cA 0, (Md_pushedFeatures (o54.2.2)).1, .inl (Md_pushedFeatures (o54.2.2)).2)), ((ob0 13), .inl (cA 0, (Md_pushedParts (o54.2.2)).1, .inl (Md_pushedParts (o54.2.2)).2)), ((ob0 14), .inl (cA 0, (Md_touched (o54.2.2)).1, .inl (Md_touched (o54.2.2)).2)), ((ob0 15), .inl (cA 0, (Md_reached (o54.2.2)).1, .inl (Md_reached (o54.2.2)).2)), ((ob0 16), .inl (cA 0, (Md_blocks (o54.2.2)).1, .inl (Md_blocks (o54.2.2)).2)), ((ob0 17), .inl (cA 0, (Md_newBlocks (o54.2.2)).1, .inl (Md_newBlocks (o54.2.2)).2)), ((ob0 18), .inl (cA 0, (Md_places (o54.2.2)).1, .inl (Md_places (o54.2.2)).2)), ((ad58 0), .inl (cA 0, (Md_written (o54.2.2)).1, .inl (Md_written (o54.2.2)).2)), ((ad58 1), .inl (cA 0, (Md_other (o54.2.2)).1, .inl (Md_other (o54.2.2)).2))]) (lv' := [(0, .ref (ob0 0)), (1, .int y1), (2, .int (o54.1)), (3, .int x3), (4, .int o27), (5, .int (o54.2.1))]) rfl rfl ?_
      refine x_iinc (v := (x3 + 1)) (lv' := [(3, .int (x3 + 1)), (0, .ref (ob0 0)), (1, .int y1), (2, .int (o54.1)), (4, .int o27), (5, .int (o54.2.1))]) F d_Md_reach_145 3 rfl rfl (by decide) rfl ?_
      refine x_goto F 16 d_Md_reach_148 (by decide) ?_
      refine x_sub [0, 1, 2, 3, 4, 5, 6, 7, 8, 9, 10, 11, 12, 13, 14, 15, 16, 17, 18, 19, 20] (by decide) ?_ (x_lv [1, 2, 3, 0] ?_ (ih (o54.1) (x3 + 1) (o54.2.2) ad58 _ _ out k56 hm (by omega) (by omega) (fun ad => x_cs (by omega) (by omega) (KX ad))))
      · rfl
      · rfl
set_option maxHeartbeats 4000000 in
set_option maxRecDepth 100000 in
theorem c_Md_reach (l : Launch) (D : va_G) (cA : Nat → ClassId) (n : Nat) (ob0 ad0 : Nat → Nat) (s0 : S_Md) (p0 : Int32) (out : Int32 × S_Md) (k : KC) (hm : m_Md_reach n s0 p0 = some (out, k)) : XM l D cA y_Md_reach b_Md_reach 9 (some FieldType.int) 1 22 [.ref (ob0 0), .int p0] ((w_Md cA ob0 ad0  s0)) k (fun _ => some (.int (out.1))) (fun ad => (w_Md cA ob0 ad  (out.2))) := by
  refine x_met (cc := b_Md_reach) (nL := 9) (ret := (some FieldType.int)) R_Md (by decide) (Nat.le_of_ble_eq_true rfl) rfl (fun X F I E => ?_)
  unfold m_Md_reach at hm
  refine x_nf2 (ws' := [((ob0 0), .inr (8, [.ref (ob0 1), .ref (ob0 2), .ref (ob0 3), .ref (ob0 4), .ref (ob0 5), .ref (ob0 6), .ref (ob0 7), .ref (ob0 8), .ref (ob0 9), .int (Md_end s0), .int (Md_nodes s0), .ref (ob0 10), .ref (ob0 11), .int (Md_fields s0), .ref (ob0 12), .ref (ob0 13), .int (Md_pushed s0), .ref (ob0 14), .int (Md_touches s0), .ref (ob0 15), .ref (ob0 16), .ref (ob0 17), .ref (ob0 18), .ref (ad0 0), .ref (ad0 1), .int (Md_length s0)])), ((ob0 1), .inl (cA 1, (Md_kinds s0).1, .inl (Md_kinds s0).2)), ((ob0 2), .inl (cA 0, (Md_values s0).1, .inl (Md_values s0).2)), ((ob0 3), .inl (cA 0, (Md_firsts s0).1, .inl (Md_firsts s0).2)), ((ob0 4), .inl (cA 0, (Md_manies s0).1, .inl (Md_manies s0).2)), ((ob0 5), .inl (cA 2, (Md_said s0).1, .inl (Md_said s0).2)), ((ob0 6), .inl (cA 2, (Md_marked s0).1, .inl (Md_marked s0).2)), ((ob0 7), .inl (cA 0, (Md_leaders s0).1, .inl (Md_leaders s0).2)), ((ob0 8), .inl (cA 0, (Md_trial s0).1, .inl (Md_trial s0).2)), ((ob0 9), .inl (cA 0, (Md_shown s0).1, .inl (Md_shown s0).2)), ((ob0 10), .inl (cA 0, (Md_features s0).1, .inl (Md_features s0).2)), ((ob0 11), .inl (cA 0, (Md_parts s0).1, .inl (Md_parts s0).2)), ((ob0 12), .inl (cA 0, (Md_pushedFeatures s0).1, .inl (Md_pushedFeatures s0).2)), ((ob0 13), .inl (cA 0, (Md_pushedParts s0).1, .inl (Md_pushedParts s0).2)), ((ob0 14), .inl (cA 0, (Md_touched s0).1, .inl (Md_touched s0).2)), ((ob0 15), .inl (cA 0, (Md_reached s0).1, .inl (Md_reached s0).2)), ((ob0 16), .inl (cA 0, (Md_blocks s0).1, .inl (Md_blocks s0).2)), ((ob0 17), .inl (cA 0, (Md_newBlocks s0).1, .inl (Md_newBlocks s0).2)), ((ob0 18), .inl (cA 0, (Md_places s0).1, .inl (Md_places s0).2)), ((ad0 0), .inl (cA 0, (Md_written s0).1, .inl (Md_written s0).2)), ((ad0 1), .inl (cA 0, (Md_other s0).1, .inl (Md_other s0).2))]) (lv' := [(0, .ref (ob0 0)), (1, .int p0)]) rfl rfl ?_
  refine x_iconst (v := (1 : Int32)) F d_Md_reach_0 (by decide) ?_
  refine x_istore_n (lv' := [(2, .int (1 : Int32)), (0, .ref (ob0 0)), (1, .int p0)]) F d_Md_reach_1 rfl (by decide) rfl ?_
  refine x_aload_n F d_Md_reach_2 1 rfl rfl ?_
  refine x_get F ck_Md hin_Md 0 19 rfl (by decide) kw_653 rfl rfl d_Md_reach_3 ?_
  refine x_iconst (v := (0 : Int32)) F d_Md_reach_6 (by decide) ?_
  refine x_aload_n F d_Md_reach_7 1 rfl rfl ?_
  refine x_get F ck_Md hin_Md 0 6 rfl (by decide) kw_640 rfl rfl d_Md_reach_8 ?_
  refine x_iload_n F d_Md_reach_11 2 rfl rfl ?_
  replace hm := xm_rd_some hm
  obtain ⟨v23, e_v23, b_v23, hm⟩ := hm
  refine x_iald (x := (Md_leaders s0)) F 7 rfl e_v23 b_v23 d_Md_reach_12 ?_
  replace hm := xm_wr_some hm
  obtain ⟨a24, e_a24, b_a24, hm⟩ := hm
  refine x_iast (x := (Md_reached s0)) (x' := a24) (ws' := [((ob0 0), .inr (8, [.ref (ob0 1), .ref (ob0 2), .ref (ob0 3), .ref (ob0 4), .ref (ob0 5), .ref (ob0 6), .ref (ob0 7), .ref (ob0 8), .ref (ob0 9), .int (Md_end s0), .int (Md_nodes s0), .ref (ob0 10), .ref (ob0 11), .int (Md_fields s0), .ref (ob0 12), .ref (ob0 13), .int (Md_pushed s0), .ref (ob0 14), .int (Md_touches s0), .ref (ob0 15), .ref (ob0 16), .ref (ob0 17), .ref (ob0 18), .ref (ad0 0), .ref (ad0 1), .int (Md_length s0)])), ((ob0 1), .inl (cA 1, (Md_kinds s0).1, .inl (Md_kinds s0).2)), ((ob0 2), .inl (cA 0, (Md_values s0).1, .inl (Md_values s0).2)), ((ob0 3), .inl (cA 0, (Md_firsts s0).1, .inl (Md_firsts s0).2)), ((ob0 4), .inl (cA 0, (Md_manies s0).1, .inl (Md_manies s0).2)), ((ob0 5), .inl (cA 2, (Md_said s0).1, .inl (Md_said s0).2)), ((ob0 6), .inl (cA 2, (Md_marked s0).1, .inl (Md_marked s0).2)), ((ob0 7), .inl (cA 0, (Md_leaders s0).1, .inl (Md_leaders s0).2)), ((ob0 8), .inl (cA 0, (Md_trial s0).1, .inl (Md_trial s0).2)), ((ob0 9), .inl (cA 0, (Md_shown s0).1, .inl (Md_shown s0).2)), ((ob0 10), .inl (cA 0, (Md_features s0).1, .inl (Md_features s0).2)), ((ob0 11), .inl (cA 0, (Md_parts s0).1, .inl (Md_parts s0).2)), ((ob0 12), .inl (cA 0, (Md_pushedFeatures s0).1, .inl (Md_pushedFeatures s0).2)), ((ob0 13), .inl (cA 0, (Md_pushedParts s0).1, .inl (Md_pushedParts s0).2)), ((ob0 14), .inl (cA 0, (Md_touched s0).1, .inl (Md_touched s0).2)), ((ob0 15), .inl (cA 0, a24.1, .inl a24.2)), ((ob0 16), .inl (cA 0, (Md_blocks s0).1, .inl (Md_blocks s0).2)), ((ob0 17), .inl (cA 0, (Md_newBlocks s0).1, .inl (Md_newBlocks s0).2)), ((ob0 18), .inl (cA 0, (Md_places s0).1, .inl (Md_places s0).2)), ((ad0 0), .inl (cA 0, (Md_written s0).1, .inl (Md_written s0).2)), ((ad0 1), .inl (cA 0, (Md_other s0).1, .inl (Md_other s0).2))]) F 15 rfl e_a24 b_a24 rfl d_Md_reach_13 ?_
  refine x_iconst (v := (0 : Int32)) F d_Md_reach_14 (by decide) ?_
  refine x_istore_n (lv' := [(3, .int (0 : Int32)), (2, .int (1 : Int32)), (0, .ref (ob0 0)), (1, .int p0)]) F d_Md_reach_15 rfl (by decide) rfl ?_
  replace hm := xm_b_some hm
  obtain ⟨o59, k60, k61, h62, hm, c_o59, d_o59⟩ := hm
  refine x_sub [0, 1, 2, 3, 4, 5, 6, 7, 8, 9, 10, 11, 12, 13, 14, 15, 16, 17, 18, 19, 20] (by decide) ?_ (x_lv [2, 3, 1, 0] ?_ (wl_Md_reach_16 F n ob0 p0  n (1 : Int32) (0 : Int32) ((Md_kinds s0), (Md_values s0), (Md_firsts s0), (Md_manies s0), (Md_said s0), (Md_marked s0), (Md_leaders s0), (Md_trial s0), (Md_shown s0), (Md_end s0), (Md_nodes s0), (Md_features s0), (Md_parts s0), (Md_fields s0), (Md_pushedFeatures s0), (Md_pushedParts s0), (Md_pushed s0), (Md_touched s0), (Md_touches s0), a24, (Md_blocks s0), (Md_newBlocks s0), (Md_places s0), (Md_written s0), (Md_other s0), (Md_length s0)) ad0 _ _ o59 k60 h62 (by omega) (by omega) (fun ad63 => ?_)))
  · rfl
  · rfl
  refine x_nf2 (ws' := [((ob0 0), .inr (8, [.ref (ob0 1), .ref (ob0 2), .ref (ob0 3), .ref (ob0 4), .ref (ob0 5), .ref (ob0 6), .ref (ob0 7), .ref (ob0 8), .ref (ob0 9), .int (Md_end (o59.2.2)), .int (Md_nodes (o59.2.2)), .ref (ob0 10), .ref (ob0 11), .int (Md_fields (o59.2.2)), .ref (ob0 12), .ref (ob0 13), .int (Md_pushed (o59.2.2)), .ref (ob0 14), .int (Md_touches (o59.2.2)), .ref (ob0 15), .ref (ob0 16), .ref (ob0 17), .ref (ob0 18), .ref (ad63 0), .ref (ad63 1), .int (Md_length (o59.2.2))])), ((ob0 1), .inl (cA 1, (Md_kinds (o59.2.2)).1, .inl (Md_kinds (o59.2.2)).2)), ((ob0 2), .inl (cA 0, (Md_values (o59.2.2)).1, .inl (Md_values (o59.2.2)).2)), ((ob0 3), .inl (cA 0, (Md_firsts (o59.2.2)).1, .inl (Md_firsts (o59.2.2)).2)), ((ob0 4), .inl (cA 0, (Md_manies (o59.2.2)).1, .inl (Md_manies (o59.2.2)).2)), ((ob0 5), .inl (cA 2, (Md_said (o59.2.2)).1, .inl (Md_said (o59.2.2)).2)), ((ob0 6), .inl (cA 2, (Md_marked (o59.2.2)).1, .inl (Md_marked (o59.2.2)).2)), ((ob0 7), .inl (cA 0, (Md_leaders (o59.2.2)).1, .inl (Md_leaders (o59.2.2)).2)), ((ob0 8), .inl (cA 0, (Md_trial (o59.2.2)).1, .inl (Md_trial (o59.2.2)).2)), ((ob0 9), .inl (cA 0, (Md_shown (o59.2.2)).1, .inl (Md_shown (o59.2.2)).2)), ((ob0 10), .inl (cA 0, (Md_features (o59.2.2)).1, .inl (Md_features (o59.2.2)).2)), ((ob0 11), .inl (cA 0, (Md_parts (o59.2.2)).1, .inl (Md_parts (o59.2.2)).2)), ((ob0 12), .inl (cA 0, (Md_pushedFeatures (o59.2.2)).1, .inl (Md_pushedFeatures (o59.2.2)).2)), ((ob0 13), .inl (cA 0, (Md_pushedParts (o59.2.2)).1, .inl (Md_pushedParts (o59.2.2)).2)), ((ob0 14), .inl (cA 0, (Md_touched (o59.2.2)).1, .inl (Md_touched (o59.2.2)).2)), ((ob0 15), .inl (cA 0, (Md_reached (o59.2.2)).1, .inl (Md_reached (o59.2.2)).2)), ((ob0 16), .inl (cA 0, (Md_blocks (o59.2.2)).1, .inl (Md_blocks (o59.2.2)).2)), ((ob0 17), .inl (cA 0, (Md_newBlocks (o59.2.2)).1, .inl (Md_newBlocks (o59.2.2)).2)), ((ob0 18), .inl (cA 0, (Md_places (o59.2.2)).1, .inl (Md_places (o59.2.2)).2)), ((ad63 0), .inl (cA 0, (Md_written (o59.2.2)).1, .inl (Md_written (o59.2.2)).2)), ((ad63 1), .inl (cA 0, (Md_other (o59.2.2)).1, .inl (Md_other (o59.2.2)).2))]) (lv' := [(0, .ref (ob0 0)), (1, .int p0), (2, .int (o59.1)), (3, .int (o59.2.1))]) rfl rfl ?_
  refine x_iload_n F d_Md_reach_151 2 rfl rfl ?_
  replace hm := xm_p_some hm
  obtain ⟨eo, c_o, d_o⟩ := hm
  subst eo
  refine x_sub [0, 1, 2, 3, 4, 5, 6, 7, 8, 9, 10, 11, 12, 13, 14, 15, 16, 17, 18, 19, 20] (by decide) ?_ (xe_i E ad63 (by omega) (by omega) rfl (xz_i _) d_Md_reach_152)
  rfl

noncomputable def L_Md_placeOf_2 (y1 : Int32) (y2 : Int32) (s0 : S_Md) (n i : Nat) : Int32 → MO (Int32) := Nat.rec (motive := fun _ => Int32 → MO (Int32)) (fun _ => none) (fun _ ih x3 => (xm_rd (Md_reached s0) x3 (fun v3 => (if v3 = y1 then (xm_p (x3)) else (ih (x3 + 1)))))) i
theorem L_Md_placeOf_2_s (y1 : Int32) (y2 : Int32) (s0 : S_Md) (n i : Nat) (x3 : Int32) : L_Md_placeOf_2 y1 y2 s0 n (i + 1) x3 = (xm_rd (Md_reached s0) x3 (fun v3 => (if v3 = y1 then (xm_p (x3)) else (L_Md_placeOf_2 y1 y2 s0 n i (x3 + 1))))) := rfl
noncomputable def m_Md_placeOf (n : Nat) (s0 : S_Md) (p0 : Int32) (p1 : Int32) : MO (Int32) := (xm_b (L_Md_placeOf_2 p0 p1 s0 n n (0 : Int32)) (fun o5 => (xm_p o5)))
set_option maxHeartbeats 4000000 in
set_option maxRecDepth 100000 in
theorem wl_Md_placeOf_2 {X : XT} {l : Launch} {D : va_G} {cA : Nat → ClassId} {mc ms : Nat} (F : XF X l D cA b_Md_placeOf 4 (some FieldType.int) R_Md 0 0 mc ms) (n : Nat) (ob0 : Nat → Nat) (y1 : Int32) (y2 : Int32) (s0 : S_Md)  (ad0 : Nat → Nat) : ∀ (i : Nat) (x3 : Int32)  (nc ns : Nat) (out : Int32) (k : KC), L_Md_placeOf_2 y1 y2 s0 n i x3 = some (out, k) → nc + k.1 ≤ mc → ns + k.2 ≤ ms → (∀ ad : Nat → Nat, XW X 4 ((w_Md cA ob0 ad0  s0)) (nc + k.1) (ns + k.2) 18 [(0, .ref (ob0 0)), (1, .int y1), (2, .int y2), (3, .int out)] []) → XW X 4 ((w_Md cA ob0 ad0  s0)) nc ns 2 [(0, .ref (ob0 0)), (1, .int y1), (2, .int y2), (3, .int x3)] [] := by
  intro i
  induction i with
  | zero =>
    intro x3  nc ns out k hm
    replace hm : (none : MO (Int32)) = some (out, k) := hm
    cases hm
  | succ i ih =>
    intro x3  nc ns out k hm hc hs KX
    rw [L_Md_placeOf_2_s] at hm
    refine x_ws (ws' := [((ob0 0), .inr (8, [.ref (ob0 1), .ref (ob0 2), .ref (ob0 3), .ref (ob0 4), .ref (ob0 5), .ref (ob0 6), .ref (ob0 7), .ref (ob0 8), .ref (ob0 9), .int (Md_end s0), .int (Md_nodes s0), .ref (ob0 10), .ref (ob0 11), .int (Md_fields s0), .ref (ob0 12), .ref (ob0 13), .int (Md_pushed s0), .ref (ob0 14), .int (Md_touches s0), .ref (ob0 15), .ref (ob0 16), .ref (ob0 17), .ref (ob0 18), .ref (ad0 0), .ref (ad0 1), .int (Md_length s0)])), ((ob0 1), .inl (cA 1, (Md_kinds s0).1, .inl (Md_kinds s0).2)), ((ob0 2), .inl (cA 0, (Md_values s0).1, .inl (Md_values s0).2)), ((ob0 3), .inl (cA 0, (Md_firsts s0).1, .inl (Md_firsts s0).2)), ((ob0 4), .inl (cA 0, (Md_manies s0).1, .inl (Md_manies s0).2)), ((ob0 5), .inl (cA 2, (Md_said s0).1, .inl (Md_said s0).2)), ((ob0 6), .inl (cA 2, (Md_marked s0).1, .inl (Md_marked s0).2)), ((ob0 7), .inl (cA 0, (Md_leaders s0).1, .inl (Md_leaders s0).2)), ((ob0 8), .inl (cA 0, (Md_trial s0).1, .inl (Md_trial s0).2)), ((ob0 9), .inl (cA 0, (Md_shown s0).1, .inl (Md_shown s0).2)), ((ob0 10), .inl (cA 0, (Md_features s0).1, .inl (Md_features s0).2)), ((ob0 11), .inl (cA 0, (Md_parts s0).1, .inl (Md_parts s0).2)), ((ob0 12), .inl (cA 0, (Md_pushedFeatures s0).1, .inl (Md_pushedFeatures s0).2)), ((ob0 13), .inl (cA 0, (Md_pushedParts s0).1, .inl (Md_pushedParts s0).2)), ((ob0 14), .inl (cA 0, (Md_touched s0).1, .inl (Md_touched s0).2)), ((ob0 15), .inl (cA 0, (Md_reached s0).1, .inl (Md_reached s0).2)), ((ob0 16), .inl (cA 0, (Md_blocks s0).1, .inl (Md_blocks s0).2)), ((ob0 17), .inl (cA 0, (Md_newBlocks s0).1, .inl (Md_newBlocks s0).2)), ((ob0 18), .inl (cA 0, (Md_places s0).1, .inl (Md_places s0).2)), ((ad0 0), .inl (cA 0, (Md_written s0).1, .inl (Md_written s0).2)), ((ad0 1), .inl (cA 0, (Md_other s0).1, .inl (Md_other s0).2))]) rfl ?_
    refine x_aload_n F d_Md_placeOf_2 0 rfl rfl ?_
    refine x_get F ck_Md hin_Md 0 19 rfl (by decide) kw_653 rfl rfl d_Md_placeOf_3 ?_
    refine x_iload_n F d_Md_placeOf_6 3 rfl rfl ?_
    replace hm := xm_rd_some hm
    obtain ⟨v3, e_v3, b_v3, hm⟩ := hm
    refine x_iald (x := (Md_reached s0)) F 15 rfl e_v3 b_v3 d_Md_placeOf_7 ?_
    refine x_iload_n F d_Md_placeOf_8 1 rfl rfl ?_
    refine x_icmp_eq F 18 d_Md_placeOf_9 (by decide) (fun c4 => ?_) (fun c4 => ?_)
    · replace hm := xm_t hm c4
      replace hm := xm_p_some hm
      obtain ⟨eo, c_o, d_o⟩ := hm
      subst eo
      refine x_sub [0, 1, 2, 3, 4, 5, 6, 7, 8, 9, 10, 11, 12, 13, 14, 15, 16, 17, 18, 19, 20] (by decide) ?_ (x_lv [0, 1, 2, 3] ?_ (x_cs (by omega) (by omega) (KX (fun _ => 0))))
      · rfl
      · rfl
    · replace hm := xm_f hm c4
      refine x_iinc (v := (x3 + 1)) (lv' := [(3, .int (x3 + 1)), (0, .ref (ob0 0)), (1, .int y1), (2, .int y2)]) F d_Md_placeOf_12 3 rfl rfl (by decide) rfl ?_
      refine x_goto F 2 d_Md_placeOf_15 (by decide) ?_
      refine x_sub [0, 1, 2, 3, 4, 5, 6, 7, 8, 9, 10, 11, 12, 13, 14, 15, 16, 17, 18, 19, 20] (by decide) ?_ (x_lv [1, 2, 3, 0] ?_ (ih (x3 + 1)  _ _ out k hm (by omega) (by omega) (fun ad => x_cs (by omega) (by omega) (KX ad))))
      · rfl
      · rfl
set_option maxHeartbeats 4000000 in
set_option maxRecDepth 100000 in
theorem c_Md_placeOf (l : Launch) (D : va_G) (cA : Nat → ClassId) (n : Nat) (ob0 ad0 : Nat → Nat) (s0 : S_Md) (p0 : Int32) (p1 : Int32) (out : Int32) (k : KC) (hm : m_Md_placeOf n s0 p0 p1 = some (out, k)) : XM l D cA y_Md_placeOf b_Md_placeOf 4 (some FieldType.int) 0 0 [.ref (ob0 0), .int p0, .int p1] ((w_Md cA ob0 ad0  s0)) k (fun _ => some (.int out)) (fun ad => (w_Md cA ob0 ad0  s0)) := by
  refine x_met (cc := b_Md_placeOf) (nL := 4) (ret := (some FieldType.int)) R_Md (by decide) (Nat.le_of_ble_eq_true rfl) rfl (fun X F I E => ?_)
  unfold m_Md_placeOf at hm
  refine x_nf2 (ws' := [((ob0 0), .inr (8, [.ref (ob0 1), .ref (ob0 2), .ref (ob0 3), .ref (ob0 4), .ref (ob0 5), .ref (ob0 6), .ref (ob0 7), .ref (ob0 8), .ref (ob0 9), .int (Md_end s0), .int (Md_nodes s0), .ref (ob0 10), .ref (ob0 11), .int (Md_fields s0), .ref (ob0 12), .ref (ob0 13), .int (Md_pushed s0), .ref (ob0 14), .int (Md_touches s0), .ref (ob0 15), .ref (ob0 16), .ref (ob0 17), .ref (ob0 18), .ref (ad0 0), .ref (ad0 1), .int (Md_length s0)])), ((ob0 1), .inl (cA 1, (Md_kinds s0).1, .inl (Md_kinds s0).2)), ((ob0 2), .inl (cA 0, (Md_values s0).1, .inl (Md_values s0).2)), ((ob0 3), .inl (cA 0, (Md_firsts s0).1, .inl (Md_firsts s0).2)), ((ob0 4), .inl (cA 0, (Md_manies s0).1, .inl (Md_manies s0).2)), ((ob0 5), .inl (cA 2, (Md_said s0).1, .inl (Md_said s0).2)), ((ob0 6), .inl (cA 2, (Md_marked s0).1, .inl (Md_marked s0).2)), ((ob0 7), .inl (cA 0, (Md_leaders s0).1, .inl (Md_leaders s0).2)), ((ob0 8), .inl (cA 0, (Md_trial s0).1, .inl (Md_trial s0).2)), ((ob0 9), .inl (cA 0, (Md_shown s0).1, .inl (Md_shown s0).2)), ((ob0 10), .inl (cA 0, (Md_features s0).1, .inl (Md_features s0).2)), ((ob0 11), .inl (cA 0, (Md_parts s0).1, .inl (Md_parts s0).2)), ((ob0 12), .inl (cA 0, (Md_pushedFeatures s0).1, .inl (Md_pushedFeatures s0).2)), ((ob0 13), .inl (cA 0, (Md_pushedParts s0).1, .inl (Md_pushedParts s0).2)), ((ob0 14), .inl (cA 0, (Md_touched s0).1, .inl (Md_touched s0).2)), ((ob0 15), .inl (cA 0, (Md_reached s0).1, .inl (Md_reached s0).2)), ((ob0 16), .inl (cA 0, (Md_blocks s0).1, .inl (Md_blocks s0).2)), ((ob0 17), .inl (cA 0, (Md_newBlocks s0).1, .inl (Md_newBlocks s0).2)), ((ob0 18), .inl (cA 0, (Md_places s0).1, .inl (Md_places s0).2)), ((ad0 0), .inl (cA 0, (Md_written s0).1, .inl (Md_written s0).2)), ((ad0 1), .inl (cA 0, (Md_other s0).1, .inl (Md_other s0).2))]) (lv' := [(0, .ref (ob0 0)), (1, .int p0), (2, .int p1)]) rfl rfl ?_
  refine x_iconst (v := (0 : Int32)) F d_Md_placeOf_0 (by decide) ?_
  refine x_istore_n (lv' := [(3, .int (0 : Int32)), (0, .ref (ob0 0)), (1, .int p0), (2, .int p1)]) F d_Md_placeOf_1 rfl (by decide) rfl ?_
  replace hm := xm_b_some hm
  obtain ⟨o5, k6, k7, h8, hm, c_o5, d_o5⟩ := hm
  refine x_sub [0, 1, 2, 3, 4, 5, 6, 7, 8, 9, 10, 11, 12, 13, 14, 15, 16, 17, 18, 19, 20] (by decide) ?_ (x_lv [1, 2, 3, 0] ?_ (wl_Md_placeOf_2 F n ob0 p0 p1 s0 ad0 n (0 : Int32)  _ _ o5 k6 h8 (by omega) (by omega) (fun ad9 => ?_)))
  · rfl
  · rfl
  refine x_nf2 (ws' := [((ob0 0), .inr (8, [.ref (ob0 1), .ref (ob0 2), .ref (ob0 3), .ref (ob0 4), .ref (ob0 5), .ref (ob0 6), .ref (ob0 7), .ref (ob0 8), .ref (ob0 9), .int (Md_end s0), .int (Md_nodes s0), .ref (ob0 10), .ref (ob0 11), .int (Md_fields s0), .ref (ob0 12), .ref (ob0 13), .int (Md_pushed s0), .ref (ob0 14), .int (Md_touches s0), .ref (ob0 15), .ref (ob0 16), .ref (ob0 17), .ref (ob0 18), .ref (ad0 0), .ref (ad0 1), .int (Md_length s0)])), ((ob0 1), .inl (cA 1, (Md_kinds s0).1, .inl (Md_kinds s0).2)), ((ob0 2), .inl (cA 0, (Md_values s0).1, .inl (Md_values s0).2)), ((ob0 3), .inl (cA 0, (Md_firsts s0).1, .inl (Md_firsts s0).2)), ((ob0 4), .inl (cA 0, (Md_manies s0).1, .inl (Md_manies s0).2)), ((ob0 5), .inl (cA 2, (Md_said s0).1, .inl (Md_said s0).2)), ((ob0 6), .inl (cA 2, (Md_marked s0).1, .inl (Md_marked s0).2)), ((ob0 7), .inl (cA 0, (Md_leaders s0).1, .inl (Md_leaders s0).2)), ((ob0 8), .inl (cA 0, (Md_trial s0).1, .inl (Md_trial s0).2)), ((ob0 9), .inl (cA 0, (Md_shown s0).1, .inl (Md_shown s0).2)), ((ob0 10), .inl (cA 0, (Md_features s0).1, .inl (Md_features s0).2)), ((ob0 11), .inl (cA 0, (Md_parts s0).1, .inl (Md_parts s0).2)), ((ob0 12), .inl (cA 0, (Md_pushedFeatures s0).1, .inl (Md_pushedFeatures s0).2)), ((ob0 13), .inl (cA 0, (Md_pushedParts s0).1, .inl (Md_pushedParts s0).2)), ((ob0 14), .inl (cA 0, (Md_touched s0).1, .inl (Md_touched s0).2)), ((ob0 15), .inl (cA 0, (Md_reached s0).1, .inl (Md_reached s0).2)), ((ob0 16), .inl (cA 0, (Md_blocks s0).1, .inl (Md_blocks s0).2)), ((ob0 17), .inl (cA 0, (Md_newBlocks s0).1, .inl (Md_newBlocks s0).2)), ((ob0 18), .inl (cA 0, (Md_places s0).1, .inl (Md_places s0).2)), ((ad0 0), .inl (cA 0, (Md_written s0).1, .inl (Md_written s0).2)), ((ad0 1), .inl (cA 0, (Md_other s0).1, .inl (Md_other s0).2))]) (lv' := [(0, .ref (ob0 0)), (1, .int p0), (2, .int p1), (3, .int o5)]) rfl rfl ?_
  refine x_iload_n F d_Md_placeOf_18 3 rfl rfl ?_
  replace hm := xm_p_some hm
  obtain ⟨eo, c_o, d_o⟩ := hm
  subst eo
  refine x_sub [0, 1, 2, 3, 4, 5, 6, 7, 8, 9, 10, 11, 12, 13, 14, 15, 16, 17, 18, 19, 20] (by decide) ?_ (xe_i E (fun _ => 0) (by omega) (by omega) rfl (xz_i _) d_Md_placeOf_19)
  rfl

noncomputable def L_Md_isLike_86 (y1 : Int32) (y2 : Int32) (y3 : Int32) (y4 : Int32) (y5 : Int32) (s0 : S_Md) (n i : Nat) : Int32 → Int32 → MO (Int32 × Int32) := Nat.rec (motive := fun _ => Int32 → Int32 → MO (Int32 × Int32)) (fun _ _ => none) (fun _ ih x6 x7 => (xm_rd (Md_manies s0) y4 (fun v77 => (if v77 ≤ x7 then (xm_p ((x6, x7))) else (if x6 = 0 then (xm_p ((x6, x7))) else (xm_rd (Md_kinds s0) y4 (fun v80 => (if v80 = (3 : Int32) then (xm_rd (Md_firsts s0) y4 (fun v82 => (xm_rd (Md_parts s0) (v82 + x7) (fun v83 => (xm_rd (Md_leaders s0) v83 (fun v84 => (xm_b (m_Md_placeOf n s0 v84 y3) (fun o85 => (xm_rd (Md_blocks s0) o85 (fun v90 => (xm_rd (Md_firsts s0) y5 (fun v91 => (xm_rd (Md_parts s0) (v91 + x7) (fun v92 => (xm_rd (Md_leaders s0) v92 (fun v93 => (xm_b (m_Md_placeOf n s0 v93 y3) (fun o94 => (xm_rd (Md_blocks s0) o94 (fun v99 => (xm_b (if v90 = v99 then (xm_p (1 : Int32)) else (xm_p (0 : Int32))) (fun j100 => (ih j100 (x7 + 1)))))))))))))))))))))))) else (xm_p ((x6, x7))))))))))) i
theorem L_Md_isLike_86_s (y1 : Int32) (y2 : Int32) (y3 : Int32) (y4 : Int32) (y5 : Int32) (s0 : S_Md) (n i : Nat) (x6 : Int32) (x7 : Int32) : L_Md_isLike_86 y1 y2 y3 y4 y5 s0 n (i + 1) x6 x7 = (xm_rd (Md_manies s0) y4 (fun v77 => (if v77 ≤ x7 then (xm_p ((x6, x7))) else (if x6 = 0 then (xm_p ((x6, x7))) else (xm_rd (Md_kinds s0) y4 (fun v80 => (if v80 = (3 : Int32) then (xm_rd (Md_firsts s0) y4 (fun v82 => (xm_rd (Md_parts s0) (v82 + x7) (fun v83 => (xm_rd (Md_leaders s0) v83 (fun v84 => (xm_b (m_Md_placeOf n s0 v84 y3) (fun o85 => (xm_rd (Md_blocks s0) o85 (fun v90 => (xm_rd (Md_firsts s0) y5 (fun v91 => (xm_rd (Md_parts s0) (v91 + x7) (fun v92 => (xm_rd (Md_leaders s0) v92 (fun v93 => (xm_b (m_Md_placeOf n s0 v93 y3) (fun o94 => (xm_rd (Md_blocks s0) o94 (fun v99 => (xm_b (if v90 = v99 then (xm_p (1 : Int32)) else (xm_p (0 : Int32))) (fun j100 => (L_Md_isLike_86 y1 y2 y3 y4 y5 s0 n i j100 (x7 + 1)))))))))))))))))))))))) else (xm_p ((x6, x7)))))))))) := rfl
noncomputable def m_Md_isLike (n : Nat) (s0 : S_Md) (p0 : Int32) (p1 : Int32) (p2 : Int32) : MO (Int32) := (xm_rd (Md_reached s0) p0 (fun v51 => (xm_b (m_Md_meant n s0 v51) (fun o52 => (xm_rd (Md_reached s0) p1 (fun v57 => (xm_b (m_Md_meant n s0 v57) (fun o58 => (if p0 = p1 then (xm_p (1 : Int32)) else (xm_rd (Md_kinds s0) o52 (fun v64 => (if v64 = 0 then (xm_p (0 : Int32)) else (xm_rd (Md_kinds s0) o52 (fun v66 => (if v66 = (4 : Int32) then (xm_p (0 : Int32)) else (xm_rd (Md_blocks s0) p0 (fun v68 => (xm_rd (Md_blocks s0) p1 (fun v69 => (if v68 = v69 then (xm_b (m_Md_go n s0 o52 o58) (fun o71 => (if o71 = 0 then (xm_p (0 : Int32)) else (xm_b (L_Md_isLike_86 p0 p1 p2 o52 o58 s0 n n (1 : Int32) (0 : Int32)) (fun o105 => (xm_z (o105.1) (xm_p (o105.1)))))))) else (xm_p (0 : Int32))))))))))))))))))))))
set_option maxHeartbeats 4000000 in
set_option maxRecDepth 100000 in
theorem wl_Md_isLike_86 {X : XT} {l : Launch} {D : va_G} {cA : Nat → ClassId} {mc ms : Nat} (F : XF X l D cA b_Md_isLike 8 (some FieldType.boolean) R_Md 1 24 mc ms) (n : Nat) (ob0 : Nat → Nat) (y1 : Int32) (y2 : Int32) (y3 : Int32) (y4 : Int32) (y5 : Int32) (s0 : S_Md)  (ad0 : Nat → Nat) : ∀ (i : Nat) (x6 : Int32) (x7 : Int32)  (nc ns : Nat) (out : Int32 × Int32) (k : KC), L_Md_isLike_86 y1 y2 y3 y4 y5 s0 n i x6 x7 = some (out, k) → nc + k.1 ≤ mc → ns + k.2 ≤ ms → (∀ ad : Nat → Nat, XW X 8 ((w_Md cA ob0 ad0  s0)) (nc + k.1) (ns + k.2) 190 [(0, .ref (ob0 0)), (1, .int y1), (2, .int y2), (3, .int y3), (4, .int y4), (5, .int y5), (6, .int (out.1)), (7, .int (out.2))] []) → XW X 8 ((w_Md cA ob0 ad0  s0)) nc ns 86 [(0, .ref (ob0 0)), (1, .int y1), (2, .int y2), (3, .int y3), (4, .int y4), (5, .int y5), (6, .int x6), (7, .int x7)] [] := by
  intro i
  induction i with
  | zero =>
    intro x6 x7  nc ns out k hm
    replace hm : (none : MO (Int32 × Int32)) = some (out, k) := hm
    cases hm
  | succ i ih =>
    intro x6 x7  nc ns out k hm hc hs KX
    rw [L_Md_isLike_86_s] at hm
    refine x_ws (ws' := [((ob0 0), .inr (8, [.ref (ob0 1), .ref (ob0 2), .ref (ob0 3), .ref (ob0 4), .ref (ob0 5), .ref (ob0 6), .ref (ob0 7), .ref (ob0 8), .ref (ob0 9), .int (Md_end s0), .int (Md_nodes s0), .ref (ob0 10), .ref (ob0 11), .int (Md_fields s0), .ref (ob0 12), .ref (ob0 13), .int (Md_pushed s0), .ref (ob0 14), .int (Md_touches s0), .ref (ob0 15), .ref (ob0 16), .ref (ob0 17), .ref (ob0 18), .ref (ad0 0), .ref (ad0 1), .int (Md_length s0)])), ((ob0 1), .inl (cA 1, (Md_kinds s0).1, .inl (Md_kinds s0).2)), ((ob0 2), .inl (cA 0, (Md_values s0).1, .inl (Md_values s0).2)), ((ob0 3), .inl (cA 0, (Md_firsts s0).1, .inl (Md_firsts s0).2)), ((ob0 4), .inl (cA 0, (Md_manies s0).1, .inl (Md_manies s0).2)), ((ob0 5), .inl (cA 2, (Md_said s0).1, .inl (Md_said s0).2)), ((ob0 6), .inl (cA 2, (Md_marked s0).1, .inl (Md_marked s0).2)), ((ob0 7), .inl (cA 0, (Md_leaders s0).1, .inl (Md_leaders s0).2)), ((ob0 8), .inl (cA 0, (Md_trial s0).1, .inl (Md_trial s0).2)), ((ob0 9), .inl (cA 0, (Md_shown s0).1, .inl (Md_shown s0).2)), ((ob0 10), .inl (cA 0, (Md_features s0).1, .inl (Md_features s0).2)), ((ob0 11), .inl (cA 0, (Md_parts s0).1, .inl (Md_parts s0).2)), ((ob0 12), .inl (cA 0, (Md_pushedFeatures s0).1, .inl (Md_pushedFeatures s0).2)), ((ob0 13), .inl (cA 0, (Md_pushedParts s0).1, .inl (Md_pushedParts s0).2)), ((ob0 14), .inl (cA 0, (Md_touched s0).1, .inl (Md_touched s0).2)), ((ob0 15), .inl (cA 0, (Md_reached s0).1, .inl (Md_reached s0).2)), ((ob0 16), .inl (cA 0, (Md_blocks s0).1, .inl (Md_blocks s0).2)), ((ob0 17), .inl (cA 0, (Md_newBlocks s0).1, .inl (Md_newBlocks s0).2)), ((ob0 18), .inl (cA 0, (Md_places s0).1, .inl (Md_places s0).2)), ((ad0 0), .inl (cA 0, (Md_written s0).1, .inl (Md_written s0).2)), ((ad0 1), .inl (cA 0, (Md_other s0).1, .inl (Md_other s0).2))]) rfl ?_
    refine x_iload F d_Md_isLike_86 7 rfl ?_
    refine x_aload_n F d_Md_isLike_88 0 rfl rfl ?_
    refine x_get F ck_Md hin_Md 0 3 rfl (by decide) kw_637 rfl rfl d_Md_isLike_89 ?_
    refine x_iload F d_Md_isLike_92 4 rfl ?_
    replace hm := xm_rd_some hm
    obtain ⟨v77, e_v77, b_v77, hm⟩ := hm
    refine x_iald (x := (Md_manies s0)) F 4 rfl e_v77 b_v77 d_Md_isLike_94 ?_
    refine x_icmp_ge F 190 d_Md_isLike_95 (by decide) (fun c78 => ?_) (fun c78 => ?_)
    · replace hm := xm_t hm c78
      replace hm := xm_p_some hm
      obtain ⟨eo, c_o, d_o⟩ := hm
      subst eo
      refine x_sub [0, 1, 2, 3, 4, 5, 6, 7, 8, 9, 10, 11, 12, 13, 14, 15, 16, 17, 18, 19, 20] (by decide) ?_ (x_lv [0, 1, 2, 3, 4, 5, 6, 7] ?_ (x_cs (by omega) (by omega) (KX (fun _ => 0))))
      · rfl
      · rfl
    · replace hm := xm_f hm c78
      refine x_iload F d_Md_isLike_98 6 rfl ?_
      refine x_if_eq F 190 d_Md_isLike_100 (by decide) (fun c79 => ?_) (fun c79 => ?_)
      · replace hm := xm_t hm c79
        replace hm := xm_p_some hm
        obtain ⟨eo, c_o, d_o⟩ := hm
        subst eo
        refine x_sub [0, 1, 2, 3, 4, 5, 6, 7, 8, 9, 10, 11, 12, 13, 14, 15, 16, 17, 18, 19, 20] (by decide) ?_ (x_lv [0, 1, 2, 3, 4, 5, 6, 7] ?_ (x_cs (by omega) (by omega) (KX (fun _ => 0))))
        · rfl
        · rfl
      · replace hm := xm_f hm c79
        refine x_aload_n F d_Md_isLike_103 0 rfl rfl ?_
        refine x_get F ck_Md hin_Md 0 0 rfl (by decide) kw_634 rfl rfl d_Md_isLike_104 ?_
        refine x_iload F d_Md_isLike_107 4 rfl ?_
        replace hm := xm_rd_some hm
        obtain ⟨v80, e_v80, b_v80, hm⟩ := hm
        refine x_bald (x := (Md_kinds s0)) F 1 rfl e_v80 b_v80 d_Md_isLike_109 ?_
        refine x_iconst (v := (3 : Int32)) F d_Md_isLike_110 (by decide) ?_
        refine x_icmp_ne F 190 d_Md_isLike_111 (by decide) (fun c81 => ?_) (fun c81 => ?_)
        · replace hm := xm_f hm c81
          replace hm := xm_p_some hm
          obtain ⟨eo, c_o, d_o⟩ := hm
          subst eo
          refine x_sub [0, 1, 2, 3, 4, 5, 6, 7, 8, 9, 10, 11, 12, 13, 14, 15, 16, 17, 18, 19, 20] (by decide) ?_ (x_lv [0, 1, 2, 3, 4, 5, 6, 7] ?_ (x_cs (by omega) (by omega) (KX (fun _ => 0))))
          · rfl
          · rfl
        · replace hm := xm_t hm c81
          refine x_aload_n F d_Md_isLike_114 0 rfl rfl ?_
          refine x_get F ck_Md hin_Md 0 20 rfl (by decide) kw_654 rfl rfl d_Md_isLike_115 ?_
          refine x_aload_n F d_Md_isLike_118 0 rfl rfl ?_
          refine x_aload_n F d_Md_isLike_119 0 rfl rfl ?_
          refine x_get F ck_Md hin_Md 0 6 rfl (by decide) kw_640 rfl rfl d_Md_isLike_120 ?_
          refine x_aload_n F d_Md_isLike_123 0 rfl rfl ?_
          refine x_get F ck_Md hin_Md 0 12 rfl (by decide) kw_646 rfl rfl d_Md_isLike_124 ?_
          refine x_aload_n F d_Md_isLike_127 0 rfl rfl ?_
          refine x_get F ck_Md hin_Md 0 2 rfl (by decide) kw_636 rfl rfl d_Md_isLike_128 ?_
          refine x_iload F d_Md_isLike_131 4 rfl ?_
          replace hm := xm_rd_some hm
          obtain ⟨v82, e_v82, b_v82, hm⟩ := hm
          refine x_iald (x := (Md_firsts s0)) F 3 rfl e_v82 b_v82 d_Md_isLike_133 ?_
          refine x_iload F d_Md_isLike_134 7 rfl ?_
          refine x_iadd F d_Md_isLike_136 ?_
          replace hm := xm_rd_some hm
          obtain ⟨v83, e_v83, b_v83, hm⟩ := hm
          refine x_iald (x := (Md_parts s0)) F 11 rfl e_v83 b_v83 d_Md_isLike_137 ?_
          replace hm := xm_rd_some hm
          obtain ⟨v84, e_v84, b_v84, hm⟩ := hm
          refine x_iald (x := (Md_leaders s0)) F 7 rfl e_v84 b_v84 d_Md_isLike_138 ?_
          refine x_iload_n F d_Md_isLike_139 3 rfl rfl ?_
          replace hm := xm_b_some hm
          obtain ⟨o85, k86, k87, h88, hm, c_o85, d_o85⟩ := hm
          refine x_callV (n := 2) (C := R_Md) (wr := []) F (c_Md_placeOf l D cA n ob0 ad0 s0 v84 y3 o85 k86 h88) kw_856 kw_853 kw_855 kw_35 kw_47 ⟨rfl, by decide, by decide, by decide +kernel⟩ rfl (by decide) (by decide) (ci := 8) rfl rfl 0 rfl [0, 1, 2, 3, 4, 5, 6, 7, 8, 9, 10, 11, 12, 13, 14, 15, 16, 17, 18, 19, 20] [] rfl rfl (by decide) (by decide) (by decide) rfl (Nat.le_of_ble_eq_true rfl) (by omega) (by omega) d_Md_isLike_140 (fun ad89 => ?_)
          refine x_nf (ws' := [((ob0 0), .inr (8, [.ref (ob0 1), .ref (ob0 2), .ref (ob0 3), .ref (ob0 4), .ref (ob0 5), .ref (ob0 6), .ref (ob0 7), .ref (ob0 8), .ref (ob0 9), .int (Md_end s0), .int (Md_nodes s0), .ref (ob0 10), .ref (ob0 11), .int (Md_fields s0), .ref (ob0 12), .ref (ob0 13), .int (Md_pushed s0), .ref (ob0 14), .int (Md_touches s0), .ref (ob0 15), .ref (ob0 16), .ref (ob0 17), .ref (ob0 18), .ref (ad0 0), .ref (ad0 1), .int (Md_length s0)])), ((ob0 1), .inl (cA 1, (Md_kinds s0).1, .inl (Md_kinds s0).2)), ((ob0 2), .inl (cA 0, (Md_values s0).1, .inl (Md_values s0).2)), ((ob0 3), .inl (cA 0, (Md_firsts s0).1, .inl (Md_firsts s0).2)), ((ob0 4), .inl (cA 0, (Md_manies s0).1, .inl (Md_manies s0).2)), ((ob0 5), .inl (cA 2, (Md_said s0).1, .inl (Md_said s0).2)), ((ob0 6), .inl (cA 2, (Md_marked s0).1, .inl (Md_marked s0).2)), ((ob0 7), .inl (cA 0, (Md_leaders s0).1, .inl (Md_leaders s0).2)), ((ob0 8), .inl (cA 0, (Md_trial s0).1, .inl (Md_trial s0).2)), ((ob0 9), .inl (cA 0, (Md_shown s0).1, .inl (Md_shown s0).2)), ((ob0 10), .inl (cA 0, (Md_features s0).1, .inl (Md_features s0).2)), ((ob0 11), .inl (cA 0, (Md_parts s0).1, .inl (Md_parts s0).2)), ((ob0 12), .inl (cA 0, (Md_pushedFeatures s0).1, .inl (Md_pushedFeatures s0).2)), ((ob0 13), .inl (cA 0, (Md_pushedParts s0).1, .inl (Md_pushedParts s0).2)), ((ob0 14), .inl (cA 0, (Md_touched s0).1, .inl (Md_touched s0).2)), ((ob0 15), .inl (cA 0, (Md_reached s0).1, .inl (Md_reached s0).2)), ((ob0 16), .inl (cA 0, (Md_blocks s0).1, .inl (Md_blocks s0).2)), ((ob0 17), .inl (cA 0, (Md_newBlocks s0).1, .inl (Md_newBlocks s0).2)), ((ob0 18), .inl (cA 0, (Md_places s0).1, .inl (Md_places s0).2)), ((ad0 0), .inl (cA 0, (Md_written s0).1, .inl (Md_written s0).2)), ((ad0 1), .inl (cA 0, (Md_other s0).1, .inl (Md_other s0).2))]) (st' := [.int o85, .ref (ob0 16)]) rfl rfl ?_
          replace hm := xm_rd_some hm
          obtain ⟨v90, e_v90, b_v90, hm⟩ := hm
          refine x_iald (x := (Md_blocks s0)) F 16 rfl e_v90 b_v90 d_Md_isLike_143 ?_
          refine x_aload_n F d_Md_isLike_144 0 rfl rfl ?_
          refine x_get F ck_Md hin_Md 0 20 rfl (by decide) kw_654 rfl rfl d_Md_isLike_145 ?_
          refine x_aload_n F d_Md_isLike_148 0 rfl rfl ?_
          refine x_aload_n F d_Md_isLike_149 0 rfl rfl ?_
          refine x_get F ck_Md hin_Md 0 6 rfl (by decide) kw_640 rfl rfl d_Md_isLike_150 ?_
          refine x_aload_n F d_Md_isLike_153 0 rfl rfl ?_
          refine x_get F ck_Md hin_Md 0 12 rfl (by decide) kw_646 rfl rfl d_Md_isLike_154 ?_
          refine x_aload_n F d_Md_isLike_157 0 rfl rfl ?_
          refine x_get F ck_Md hin_Md 0 2 rfl (by decide) kw_636 rfl rfl d_Md_isLike_158 ?_
          refine x_iload F d_Md_isLike_161 5 rfl ?_
          replace hm := xm_rd_some hm
          obtain ⟨v91, e_v91, b_v91, hm⟩ := hm
          refine x_iald (x := (Md_firsts s0)) F 3 rfl e_v91 b_v91 d_Md_isLike_163 ?_
          refine x_iload F d_Md_isLike_164 7 rfl ?_
          refine x_iadd F d_Md_isLike_166 ?_
          replace hm := xm_rd_some hm
          obtain ⟨v92, e_v92, b_v92, hm⟩ := hm
          refine x_iald (x := (Md_parts s0)) F 11 rfl e_v92 b_v92 d_Md_isLike_167 ?_
          replace hm := xm_rd_some hm
          obtain ⟨v93, e_v93, b_v93, hm⟩ := hm
          refine x_iald (x := (Md_leaders s0)) F 7 rfl e_v93 b_v93 d_Md_isLike_168 ?_
          refine x_iload_n F d_Md_isLike_169 3 rfl rfl ?_
          replace hm := xm_b_some hm
          obtain ⟨o94, k95, k96, h97, hm, c_o94, d_o94⟩ := hm
          refine x_callV (n := 2) (C := R_Md) (wr := []) F (c_Md_placeOf l D cA n ob0 ad0 s0 v93 y3 o94 k95 h97) kw_856 kw_853 kw_855 kw_35 kw_47 ⟨rfl, by decide, by decide, by decide +kernel⟩ rfl (by decide) (by decide) (ci := 8) rfl rfl 0 rfl [0, 1, 2, 3, 4, 5, 6, 7, 8, 9, 10, 11, 12, 13, 14, 15, 16, 17, 18, 19, 20] [] rfl rfl (by decide) (by decide) (by decide) rfl (Nat.le_of_ble_eq_true rfl) (by omega) (by omega) d_Md_isLike_170 (fun ad98 => ?_)
          refine x_nf (ws' := [((ob0 0), .inr (8, [.ref (ob0 1), .ref (ob0 2), .ref (ob0 3), .ref (ob0 4), .ref (ob0 5), .ref (ob0 6), .ref (ob0 7), .ref (ob0 8), .ref (ob0 9), .int (Md_end s0), .int (Md_nodes s0), .ref (ob0 10), .ref (ob0 11), .int (Md_fields s0), .ref (ob0 12), .ref (ob0 13), .int (Md_pushed s0), .ref (ob0 14), .int (Md_touches s0), .ref (ob0 15), .ref (ob0 16), .ref (ob0 17), .ref (ob0 18), .ref (ad0 0), .ref (ad0 1), .int (Md_length s0)])), ((ob0 1), .inl (cA 1, (Md_kinds s0).1, .inl (Md_kinds s0).2)), ((ob0 2), .inl (cA 0, (Md_values s0).1, .inl (Md_values s0).2)), ((ob0 3), .inl (cA 0, (Md_firsts s0).1, .inl (Md_firsts s0).2)), ((ob0 4), .inl (cA 0, (Md_manies s0).1, .inl (Md_manies s0).2)), ((ob0 5), .inl (cA 2, (Md_said s0).1, .inl (Md_said s0).2)), ((ob0 6), .inl (cA 2, (Md_marked s0).1, .inl (Md_marked s0).2)), ((ob0 7), .inl (cA 0, (Md_leaders s0).1, .inl (Md_leaders s0).2)), ((ob0 8), .inl (cA 0, (Md_trial s0).1, .inl (Md_trial s0).2)), ((ob0 9), .inl (cA 0, (Md_shown s0).1, .inl (Md_shown s0).2)), ((ob0 10), .inl (cA 0, (Md_features s0).1, .inl (Md_features s0).2)), ((ob0 11), .inl (cA 0, (Md_parts s0).1, .inl (Md_parts s0).2)), ((ob0 12), .inl (cA 0, (Md_pushedFeatures s0).1, .inl (Md_pushedFeatures s0).2)), ((ob0 13), .inl (cA 0, (Md_pushedParts s0).1, .inl (Md_pushedParts s0).2)), ((ob0 14), .inl (cA 0, (Md_touched s0).1, .inl (Md_touched s0).2)), ((ob0 15), .inl (cA 0, (Md_reached s0).1, .inl (Md_reached s0).2)), ((ob0 16), .inl (cA 0, (Md_blocks s0).1, .inl (Md_blocks s0).2)), ((ob0 17), .inl (cA 0, (Md_newBlocks s0).1, .inl (Md_newBlocks s0).2)), ((ob0 18), .inl (cA 0, (Md_places s0).1, .inl (Md_places s0).2)), ((ad0 0), .inl (cA 0, (Md_written s0).1, .inl (Md_written s0).2)), ((ad0 1), .inl (cA 0, (Md_other s0).1, .inl (Md_other s0).2))]) (st' := [.int o94, .ref (ob0 16), .int v90]) rfl rfl ?_
          replace hm := xm_rd_some hm
          obtain ⟨v99, e_v99, b_v99, hm⟩ := hm
          refine x_iald (x := (Md_blocks s0)) F 16 rfl e_v99 b_v99 d_Md_isLike_173 ?_
          replace hm := xm_b_some hm
          obtain ⟨j100, k101, k102, h103, hm, c_j100, d_j100⟩ := hm
          refine x_mrg (k1 := k101) (M := 182) (v := j100) (st := []) ?_ (fun J => ?_)
          · skip
            refine x_istore (lv' := [(6, .int j100), (0, .ref (ob0 0)), (1, .int y1), (2, .int y2), (3, .int y3), (4, .int y4), (5, .int y5), (7, .int x7)]) F d_Md_isLike_182 (by decide) rfl ?_
            refine x_iinc (v := (x7 + 1)) (lv' := [(7, .int (x7 + 1)), (6, .int j100), (0, .ref (ob0 0)), (1, .int y1), (2, .int y2), (3, .int y3), (4, .int y4), (5, .int y5)]) F d_Md_isLike_184 7 rfl rfl (by decide) rfl ?_
            refine x_goto F 86 d_Md_isLike_187 (by decide) ?_
            refine x_sub [0, 1, 2, 3, 4, 5, 6, 7, 8, 9, 10, 11, 12, 13, 14, 15, 16, 17, 18, 19, 20] (by decide) ?_ (x_lv [2, 3, 4, 5, 6, 7, 1, 0] ?_ (ih j100 (x7 + 1)  _ _ out k102 hm (by omega) (by omega) (fun ad => x_cs (by omega) (by omega) (KX ad))))
            · rfl
            · rfl
          · replace hm := h103
            refine x_icmp_ne F 181 d_Md_isLike_174 (by decide) (fun c104 => ?_) (fun c104 => ?_)
            · replace hm := xm_f hm c104
              refine x_iconst (v := (0 : Int32)) F d_Md_isLike_181 (by decide) ?_
              replace hm := xm_p_some hm
              obtain ⟨eo, c_o, d_o⟩ := hm
              subst eo
              exact x_cs (by omega) (by omega) J
            · replace hm := xm_t hm c104
              refine x_iconst (v := (1 : Int32)) F d_Md_isLike_177 (by decide) ?_
              refine x_goto F 182 d_Md_isLike_178 (by decide) ?_
              replace hm := xm_p_some hm
              obtain ⟨eo, c_o, d_o⟩ := hm
              subst eo
              exact x_cs (by omega) (by omega) J
set_option maxHeartbeats 4000000 in
set_option maxRecDepth 100000 in
theorem c_Md_isLike (l : Launch) (D : va_G) (cA : Nat → ClassId) (n : Nat) (ob0 ad0 : Nat → Nat) (s0 : S_Md) (p0 : Int32) (p1 : Int32) (p2 : Int32) (out : Int32) (k : KC) (hm : m_Md_isLike n s0 p0 p1 p2 = some (out, k)) : XM l D cA y_Md_isLike b_Md_isLike 8 (some FieldType.boolean) 1 24 [.ref (ob0 0), .int p0, .int p1, .int p2] ((w_Md cA ob0 ad0  s0)) k (fun _ => some (.int out)) (fun ad => (w_Md cA ob0 ad0  s0)) := by
  refine x_met (cc := b_Md_isLike) (nL := 8) (ret := (some FieldType.boolean)) R_Md (by decide) (Nat.le_of_ble_eq_true rfl) rfl (fun X F I E => ?_)
  unfold m_Md_isLike at hm
  refine x_nf2 (ws' := [((ob0 0), .inr (8, [.ref (ob0 1), .ref (ob0 2), .ref (ob0 3), .ref (ob0 4), .ref (ob0 5), .ref (ob0 6), .ref (ob0 7), .ref (ob0 8), .ref (ob0 9), .int (Md_end s0), .int (Md_nodes s0), .ref (ob0 10), .ref (ob0 11), .int (Md_fields s0), .ref (ob0 12), .ref (ob0 13), .int (Md_pushed s0), .ref (ob0 14), .int (Md_touches s0), .ref (ob0 15), .ref (ob0 16), .ref (ob0 17), .ref (ob0 18), .ref (ad0 0), .ref (ad0 1), .int (Md_length s0)])), ((ob0 1), .inl (cA 1, (Md_kinds s0).1, .inl (Md_kinds s0).2)), ((ob0 2), .inl (cA 0, (Md_values s0).1, .inl (Md_values s0).2)), ((ob0 3), .inl (cA 0, (Md_firsts s0).1, .inl (Md_firsts s0).2)), ((ob0 4), .inl (cA 0, (Md_manies s0).1, .inl (Md_manies s0).2)), ((ob0 5), .inl (cA 2, (Md_said s0).1, .inl (Md_said s0).2)), ((ob0 6), .inl (cA 2, (Md_marked s0).1, .inl (Md_marked s0).2)), ((ob0 7), .inl (cA 0, (Md_leaders s0).1, .inl (Md_leaders s0).2)), ((ob0 8), .inl (cA 0, (Md_trial s0).1, .inl (Md_trial s0).2)), ((ob0 9), .inl (cA 0, (Md_shown s0).1, .inl (Md_shown s0).2)), ((ob0 10), .inl (cA 0, (Md_features s0).1, .inl (Md_features s0).2)), ((ob0 11), .inl (cA 0, (Md_parts s0).1, .inl (Md_parts s0).2)), ((ob0 12), .inl (cA 0, (Md_pushedFeatures s0).1, .inl (Md_pushedFeatures s0).2)), ((ob0 13), .inl (cA 0, (Md_pushedParts s0).1, .inl (Md_pushedParts s0).2)), ((ob0 14), .inl (cA 0, (Md_touched s0).1, .inl (Md_touched s0).2)), ((ob0 15), .inl (cA 0, (Md_reached s0).1, .inl (Md_reached s0).2)), ((ob0 16), .inl (cA 0, (Md_blocks s0).1, .inl (Md_blocks s0).2)), ((ob0 17), .inl (cA 0, (Md_newBlocks s0).1, .inl (Md_newBlocks s0).2)), ((ob0 18), .inl (cA 0, (Md_places s0).1, .inl (Md_places s0).2)), ((ad0 0), .inl (cA 0, (Md_written s0).1, .inl (Md_written s0).2)), ((ad0 1), .inl (cA 0, (Md_other s0).1, .inl (Md_other s0).2))]) (lv' := [(0, .ref (ob0 0)), (1, .int p0), (2, .int p1), (3, .int p2)]) rfl rfl ?_
  refine x_aload_n F d_Md_isLike_0 0 rfl rfl ?_
  refine x_aload_n F d_Md_isLike_1 0 rfl rfl ?_
  refine x_get F ck_Md hin_Md 0 19 rfl (by decide) kw_653 rfl rfl d_Md_isLike_2 ?_
  refine x_iload_n F d_Md_isLike_5 1 rfl rfl ?_
  replace hm := xm_rd_some hm
  obtain ⟨v51, e_v51, b_v51, hm⟩ := hm
  refine x_iald (x := (Md_reached s0)) F 15 rfl e_v51 b_v51 d_Md_isLike_6 ?_
  replace hm := xm_b_some hm
  obtain ⟨o52, k53, k54, h55, hm, c_o52, d_o52⟩ := hm
  refine x_callV (n := 1) (C := R_Md) (wr := []) F (c_Md_meant l D cA n ob0 ad0 s0 v51 o52 k53 h55) kw_786 kw_783 kw_785 kw_27 kw_47 ⟨rfl, by decide, by decide, by decide +kernel⟩ rfl (by decide) (by decide) (ci := 8) rfl rfl 0 rfl [0, 1, 2, 3, 4, 5, 6, 7, 8, 9, 10, 11, 12, 13, 14, 15, 16, 17, 18, 19, 20] [] rfl rfl (by decide) (by decide) (by decide) rfl (Nat.le_of_ble_eq_true rfl) (by omega) (by omega) d_Md_isLike_7 (fun ad56 => ?_)
  refine x_nf (ws' := [((ob0 0), .inr (8, [.ref (ob0 1), .ref (ob0 2), .ref (ob0 3), .ref (ob0 4), .ref (ob0 5), .ref (ob0 6), .ref (ob0 7), .ref (ob0 8), .ref (ob0 9), .int (Md_end s0), .int (Md_nodes s0), .ref (ob0 10), .ref (ob0 11), .int (Md_fields s0), .ref (ob0 12), .ref (ob0 13), .int (Md_pushed s0), .ref (ob0 14), .int (Md_touches s0), .ref (ob0 15), .ref (ob0 16), .ref (ob0 17), .ref (ob0 18), .ref (ad0 0), .ref (ad0 1), .int (Md_length s0)])), ((ob0 1), .inl (cA 1, (Md_kinds s0).1, .inl (Md_kinds s0).2)), ((ob0 2), .inl (cA 0, (Md_values s0).1, .inl (Md_values s0).2)), ((ob0 3), .inl (cA 0, (Md_firsts s0).1, .inl (Md_firsts s0).2)), ((ob0 4), .inl (cA 0, (Md_manies s0).1, .inl (Md_manies s0).2)), ((ob0 5), .inl (cA 2, (Md_said s0).1, .inl (Md_said s0).2)), ((ob0 6), .inl (cA 2, (Md_marked s0).1, .inl (Md_marked s0).2)), ((ob0 7), .inl (cA 0, (Md_leaders s0).1, .inl (Md_leaders s0).2)), ((ob0 8), .inl (cA 0, (Md_trial s0).1, .inl (Md_trial s0).2)), ((ob0 9), .inl (cA 0, (Md_shown s0).1, .inl (Md_shown s0).2)), ((ob0 10), .inl (cA 0, (Md_features s0).1, .inl (Md_features s0).2)), ((ob0 11), .inl (cA 0, (Md_parts s0).1, .inl (Md_parts s0).2)), ((ob0 12), .inl (cA 0, (Md_pushedFeatures s0).1, .inl (Md_pushedFeatures s0).2)), ((ob0 13), .inl (cA 0, (Md_pushedParts s0).1, .inl (Md_pushedParts s0).2)), ((ob0 14), .inl (cA 0, (Md_touched s0).1, .inl (Md_touched s0).2)), ((ob0 15), .inl (cA 0, (Md_reached s0).1, .inl (Md_reached s0).2)), ((ob0 16), .inl (cA 0, (Md_blocks s0).1, .inl (Md_blocks s0).2)), ((ob0 17), .inl (cA 0, (Md_newBlocks s0).1, .inl (Md_newBlocks s0).2)), ((ob0 18), .inl (cA 0, (Md_places s0).1, .inl (Md_places s0).2)), ((ad0 0), .inl (cA 0, (Md_written s0).1, .inl (Md_written s0).2)), ((ad0 1), .inl (cA 0, (Md_other s0).1, .inl (Md_other s0).2))]) (st' := [.int o52]) rfl rfl ?_
  refine x_istore (lv' := [(4, .int o52), (0, .ref (ob0 0)), (1, .int p0), (2, .int p1), (3, .int p2)]) F d_Md_isLike_10 (by decide) rfl ?_
  refine x_aload_n F d_Md_isLike_12 1 rfl rfl ?_
  refine x_aload_n F d_Md_isLike_13 1 rfl rfl ?_
  refine x_get F ck_Md hin_Md 0 19 rfl (by decide) kw_653 rfl rfl d_Md_isLike_14 ?_
  refine x_iload_n F d_Md_isLike_17 3 rfl rfl ?_
  replace hm := xm_rd_some hm
  obtain ⟨v57, e_v57, b_v57, hm⟩ := hm
  refine x_iald (x := (Md_reached s0)) F 15 rfl e_v57 b_v57 d_Md_isLike_18 ?_
  replace hm := xm_b_some hm
  obtain ⟨o58, k59, k60, h61, hm, c_o58, d_o58⟩ := hm
  refine x_callV (n := 1) (C := R_Md) (wr := []) F (c_Md_meant l D cA n ob0 ad0 s0 v57 o58 k59 h61) kw_786 kw_783 kw_785 kw_27 kw_47 ⟨rfl, by decide, by decide, by decide +kernel⟩ rfl (by decide) (by decide) (ci := 8) rfl rfl 0 rfl [0, 1, 2, 3, 4, 5, 6, 7, 8, 9, 10, 11, 12, 13, 14, 15, 16, 17, 18, 19, 20] [] rfl rfl (by decide) (by decide) (by decide) rfl (Nat.le_of_ble_eq_true rfl) (by omega) (by omega) d_Md_isLike_19 (fun ad62 => ?_)
  refine x_nf (ws' := [((ob0 0), .inr (8, [.ref (ob0 1), .ref (ob0 2), .ref (ob0 3), .ref (ob0 4), .ref (ob0 5), .ref (ob0 6), .ref (ob0 7), .ref (ob0 8), .ref (ob0 9), .int (Md_end s0), .int (Md_nodes s0), .ref (ob0 10), .ref (ob0 11), .int (Md_fields s0), .ref (ob0 12), .ref (ob0 13), .int (Md_pushed s0), .ref (ob0 14), .int (Md_touches s0), .ref (ob0 15), .ref (ob0 16), .ref (ob0 17), .ref (ob0 18), .ref (ad0 0), .ref (ad0 1), .int (Md_length s0)])), ((ob0 1), .inl (cA 1, (Md_kinds s0).1, .inl (Md_kinds s0).2)), ((ob0 2), .inl (cA 0, (Md_values s0).1, .inl (Md_values s0).2)), ((ob0 3), .inl (cA 0, (Md_firsts s0).1, .inl (Md_firsts s0).2)), ((ob0 4), .inl (cA 0, (Md_manies s0).1, .inl (Md_manies s0).2)), ((ob0 5), .inl (cA 2, (Md_said s0).1, .inl (Md_said s0).2)), ((ob0 6), .inl (cA 2, (Md_marked s0).1, .inl (Md_marked s0).2)), ((ob0 7), .inl (cA 0, (Md_leaders s0).1, .inl (Md_leaders s0).2)), ((ob0 8), .inl (cA 0, (Md_trial s0).1, .inl (Md_trial s0).2)), ((ob0 9), .inl (cA 0, (Md_shown s0).1, .inl (Md_shown s0).2)), ((ob0 10), .inl (cA 0, (Md_features s0).1, .inl (Md_features s0).2)), ((ob0 11), .inl (cA 0, (Md_parts s0).1, .inl (Md_parts s0).2)), ((ob0 12), .inl (cA 0, (Md_pushedFeatures s0).1, .inl (Md_pushedFeatures s0).2)), ((ob0 13), .inl (cA 0, (Md_pushedParts s0).1, .inl (Md_pushedParts s0).2)), ((ob0 14), .inl (cA 0, (Md_touched s0).1, .inl (Md_touched s0).2)), ((ob0 15), .inl (cA 0, (Md_reached s0).1, .inl (Md_reached s0).2)), ((ob0 16), .inl (cA 0, (Md_blocks s0).1, .inl (Md_blocks s0).2)), ((ob0 17), .inl (cA 0, (Md_newBlocks s0).1, .inl (Md_newBlocks s0).2)), ((ob0 18), .inl (cA 0, (Md_places s0).1, .inl (Md_places s0).2)), ((ad0 0), .inl (cA 0, (Md_written s0).1, .inl (Md_written s0).2)), ((ad0 1), .inl (cA 0, (Md_other s0).1, .inl (Md_other s0).2))]) (st' := [.int o58]) rfl rfl ?_
  refine x_istore (lv' := [(5, .int o58), (4, .int o52), (0, .ref (ob0 0)), (1, .int p0), (2, .int p1), (3, .int p2)]) F d_Md_isLike_22 (by decide) rfl ?_
  refine x_iload_n F d_Md_isLike_24 3 rfl rfl ?_
  refine x_iload_n F d_Md_isLike_25 4 rfl rfl ?_
  refine x_icmp_ne F 31 d_Md_isLike_26 (by decide) (fun c63 => ?_) (fun c63 => ?_)
  · replace hm := xm_f hm c63
    refine x_aload_n F d_Md_isLike_31 2 rfl rfl ?_
    refine x_get F ck_Md hin_Md 0 0 rfl (by decide) kw_634 rfl rfl d_Md_isLike_32 ?_
    refine x_iload F d_Md_isLike_35 1 rfl ?_
    replace hm := xm_rd_some hm
    obtain ⟨v64, e_v64, b_v64, hm⟩ := hm
    refine x_bald (x := (Md_kinds s0)) F 1 rfl e_v64 b_v64 d_Md_isLike_37 ?_
    refine x_if_eq F 78 d_Md_isLike_38 (by decide) (fun c65 => ?_) (fun c65 => ?_)
    · replace hm := xm_t hm c65
      refine x_iconst (v := (0 : Int32)) F d_Md_isLike_78 (by decide) ?_
      replace hm := xm_p_some hm
      obtain ⟨eo, c_o, d_o⟩ := hm
      subst eo
      refine x_sub [0, 1, 2, 3, 4, 5, 6, 7, 8, 9, 10, 11, 12, 13, 14, 15, 16, 17, 18, 19, 20] (by decide) ?_ (xe_i E (fun _ => 0) (by omega) (by omega) rfl xz_0 d_Md_isLike_79)
      rfl
    · replace hm := xm_f hm c65
      refine x_aload_n F d_Md_isLike_41 2 rfl rfl ?_
      refine x_get F ck_Md hin_Md 0 0 rfl (by decide) kw_634 rfl rfl d_Md_isLike_42 ?_
      refine x_iload F d_Md_isLike_45 1 rfl ?_
      replace hm := xm_rd_some hm
      obtain ⟨v66, e_v66, b_v66, hm⟩ := hm
      refine x_bald (x := (Md_kinds s0)) F 1 rfl e_v66 b_v66 d_Md_isLike_47 ?_
      refine x_iconst (v := (4 : Int32)) F d_Md_isLike_48 (by decide) ?_
      refine x_icmp_eq F 78 d_Md_isLike_49 (by decide) (fun c67 => ?_) (fun c67 => ?_)
      · replace hm := xm_t hm c67
        refine x_iconst (v := (0 : Int32)) F d_Md_isLike_78 (by decide) ?_
        replace hm := xm_p_some hm
        obtain ⟨eo, c_o, d_o⟩ := hm
        subst eo
        refine x_sub [0, 1, 2, 3, 4, 5, 6, 7, 8, 9, 10, 11, 12, 13, 14, 15, 16, 17, 18, 19, 20] (by decide) ?_ (xe_i E (fun _ => 0) (by omega) (by omega) rfl xz_0 d_Md_isLike_79)
        rfl
      · replace hm := xm_f hm c67
        refine x_aload_n F d_Md_isLike_52 2 rfl rfl ?_
        refine x_get F ck_Md hin_Md 0 20 rfl (by decide) kw_654 rfl rfl d_Md_isLike_53 ?_
        refine x_iload_n F d_Md_isLike_56 3 rfl rfl ?_
        replace hm := xm_rd_some hm
        obtain ⟨v68, e_v68, b_v68, hm⟩ := hm
        refine x_iald (x := (Md_blocks s0)) F 16 rfl e_v68 b_v68 d_Md_isLike_57 ?_
        refine x_aload_n F d_Md_isLike_58 2 rfl rfl ?_
        refine x_get F ck_Md hin_Md 0 20 rfl (by decide) kw_654 rfl rfl d_Md_isLike_59 ?_
        refine x_iload_n F d_Md_isLike_62 4 rfl rfl ?_
        replace hm := xm_rd_some hm
        obtain ⟨v69, e_v69, b_v69, hm⟩ := hm
        refine x_iald (x := (Md_blocks s0)) F 16 rfl e_v69 b_v69 d_Md_isLike_63 ?_
        refine x_icmp_ne F 78 d_Md_isLike_64 (by decide) (fun c70 => ?_) (fun c70 => ?_)
        · replace hm := xm_f hm c70
          refine x_iconst (v := (0 : Int32)) F d_Md_isLike_78 (by decide) ?_
          replace hm := xm_p_some hm
          obtain ⟨eo, c_o, d_o⟩ := hm
          subst eo
          refine x_sub [0, 1, 2, 3, 4, 5, 6, 7, 8, 9, 10, 11, 12, 13, 14, 15, 16, 17, 18, 19, 20] (by decide) ?_ (xe_i E (fun _ => 0) (by omega) (by omega) rfl xz_0 d_Md_isLike_79)
          rfl
        · replace hm := xm_t hm c70
          refine x_aload_n F d_Md_isLike_67 2 rfl rfl ?_
          refine x_iload F d_Md_isLike_68 1 rfl ?_
          refine x_iload F d_Md_isLike_70 0 rfl ?_
          replace hm := xm_b_some hm
          obtain ⟨o71, k72, k73, h74, hm, c_o71, d_o71⟩ := hm
          refine x_callV (n := 2) (C := R_Md) (wr := []) F (c_Md_go l D cA n ob0 ad0 s0 o52 o58 o71 k72 h74) kw_778 kw_775 kw_777 kw_25 kw_47 ⟨rfl, by decide, by decide, by decide +kernel⟩ rfl (by decide) (by decide) (ci := 8) rfl rfl 0 rfl [0, 1, 2, 3, 4, 5, 6, 7, 8, 9, 10, 11, 12, 13, 14, 15, 16, 17, 18, 19, 20] [] rfl rfl (by decide) (by decide) (by decide) rfl (Nat.le_of_ble_eq_true rfl) (by omega) (by omega) d_Md_isLike_72 (fun ad75 => ?_)
          refine x_nf (ws' := [((ob0 0), .inr (8, [.ref (ob0 1), .ref (ob0 2), .ref (ob0 3), .ref (ob0 4), .ref (ob0 5), .ref (ob0 6), .ref (ob0 7), .ref (ob0 8), .ref (ob0 9), .int (Md_end s0), .int (Md_nodes s0), .ref (ob0 10), .ref (ob0 11), .int (Md_fields s0), .ref (ob0 12), .ref (ob0 13), .int (Md_pushed s0), .ref (ob0 14), .int (Md_touches s0), .ref (ob0 15), .ref (ob0 16), .ref (ob0 17), .ref (ob0 18), .ref (ad0 0), .ref (ad0 1), .int (Md_length s0)])), ((ob0 1), .inl (cA 1, (Md_kinds s0).1, .inl (Md_kinds s0).2)), ((ob0 2), .inl (cA 0, (Md_values s0).1, .inl (Md_values s0).2)), ((ob0 3), .inl (cA 0, (Md_firsts s0).1, .inl (Md_firsts s0).2)), ((ob0 4), .inl (cA 0, (Md_manies s0).1, .inl (Md_manies s0).2)), ((ob0 5), .inl (cA 2, (Md_said s0).1, .inl (Md_said s0).2)), ((ob0 6), .inl (cA 2, (Md_marked s0).1, .inl (Md_marked s0).2)), ((ob0 7), .inl (cA 0, (Md_leaders s0).1, .inl (Md_leaders s0).2)), ((ob0 8), .inl (cA 0, (Md_trial s0).1, .inl (Md_trial s0).2)), ((ob0 9), .inl (cA 0, (Md_shown s0).1, .inl (Md_shown s0).2)), ((ob0 10), .inl (cA 0, (Md_features s0).1, .inl (Md_features s0).2)), ((ob0 11), .inl (cA 0, (Md_parts s0).1, .inl (Md_parts s0).2)), ((ob0 12), .inl (cA 0, (Md_pushedFeatures s0).1, .inl (Md_pushedFeatures s0).2)), ((ob0 13), .inl (cA 0, (Md_pushedParts s0).1, .inl (Md_pushedParts s0).2)), ((ob0 14), .inl (cA 0, (Md_touched s0).1, .inl (Md_touched s0).2)), ((ob0 15), .inl (cA 0, (Md_reached s0).1, .inl (Md_reached s0).2)), ((ob0 16), .inl (cA 0, (Md_blocks s0).1, .inl (Md_blocks s0).2)), ((ob0 17), .inl (cA 0, (Md_newBlocks s0).1, .inl (Md_newBlocks s0).2)), ((ob0 18), .inl (cA 0, (Md_places s0).1, .inl (Md_places s0).2)), ((ad0 0), .inl (cA 0, (Md_written s0).1, .inl (Md_written s0).2)), ((ad0 1), .inl (cA 0, (Md_other s0).1, .inl (Md_other s0).2))]) (st' := [.int o71]) rfl rfl ?_
          refine x_if_ne F 80 d_Md_isLike_75 (by decide) (fun c76 => ?_) (fun c76 => ?_)
          · replace hm := xm_f hm c76
            refine x_iconst (v := (1 : Int32)) F d_Md_isLike_80 (by decide) ?_
            refine x_istore (lv' := [(6, .int (1 : Int32)), (5, .int o58), (4, .int o52), (0, .ref (ob0 0)), (1, .int p0), (2, .int p1), (3, .int p2)]) F d_Md_isLike_81 (by decide) rfl ?_
            refine x_iconst (v := (0 : Int32)) F d_Md_isLike_83 (by decide) ?_
            refine x_istore (lv' := [(7, .int (0 : Int32)), (6, .int (1 : Int32)), (5, .int o58), (4, .int o52), (0, .ref (ob0 0)), (1, .int p0), (2, .int p1), (3, .int p2)]) F d_Md_isLike_84 (by decide) rfl ?_
            replace hm := xm_b_some hm
            obtain ⟨o105, k106, k107, h108, hm, c_o105, d_o105⟩ := hm
            refine x_sub [0, 1, 2, 3, 4, 5, 6, 7, 8, 9, 10, 11, 12, 13, 14, 15, 16, 17, 18, 19, 20] (by decide) ?_ (x_lv [4, 5, 6, 7, 3, 2, 1, 0] ?_ (wl_Md_isLike_86 F n ob0 p0 p1 p2 o52 o58 s0 ad0 n (1 : Int32) (0 : Int32)  _ _ o105 k106 h108 (by omega) (by omega) (fun ad109 => ?_)))
            · rfl
            · rfl
            refine x_nf2 (ws' := [((ob0 0), .inr (8, [.ref (ob0 1), .ref (ob0 2), .ref (ob0 3), .ref (ob0 4), .ref (ob0 5), .ref (ob0 6), .ref (ob0 7), .ref (ob0 8), .ref (ob0 9), .int (Md_end s0), .int (Md_nodes s0), .ref (ob0 10), .ref (ob0 11), .int (Md_fields s0), .ref (ob0 12), .ref (ob0 13), .int (Md_pushed s0), .ref (ob0 14), .int (Md_touches s0), .ref (ob0 15), .ref (ob0 16), .ref (ob0 17), .ref (ob0 18), .ref (ad0 0), .ref (ad0 1), .int (Md_length s0)])), ((ob0 1), .inl (cA 1, (Md_kinds s0).1, .inl (Md_kinds s0).2)), ((ob0 2), .inl (cA 0, (Md_values s0).1, .inl (Md_values s0).2)), ((ob0 3), .inl (cA 0, (Md_firsts s0).1, .inl (Md_firsts s0).2)), ((ob0 4), .inl (cA 0, (Md_manies s0).1, .inl (Md_manies s0).2)), ((ob0 5), .inl (cA 2, (Md_said s0).1, .inl (Md_said s0).2)), ((ob0 6), .inl (cA 2, (Md_marked s0).1, .inl (Md_marked s0).2)), ((ob0 7), .inl (cA 0, (Md_leaders s0).1, .inl (Md_leaders s0).2)), ((ob0 8), .inl (cA 0, (Md_trial s0).1, .inl (Md_trial s0).2)), ((ob0 9), .inl (cA 0, (Md_shown s0).1, .inl (Md_shown s0).2)), ((ob0 10), .inl (cA 0, (Md_features s0).1, .inl (Md_features s0).2)), ((ob0 11), .inl (cA 0, (Md_parts s0).1, .inl (Md_parts s0).2)), ((ob0 12), .inl (cA 0, (Md_pushedFeatures s0).1, .inl (Md_pushedFeatures s0).2)), ((ob0 13), .inl (cA 0, (Md_pushedParts s0).1, .inl (Md_pushedParts s0).2)), ((ob0 14), .inl (cA 0, (Md_touched s0).1, .inl (Md_touched s0).2)), ((ob0 15), .inl (cA 0, (Md_reached s0).1, .inl (Md_reached s0).2)), ((ob0 16), .inl (cA 0, (Md_blocks s0).1, .inl (Md_blocks s0).2)), ((ob0 17), .inl (cA 0, (Md_newBlocks s0).1, .inl (Md_newBlocks s0).2)), ((ob0 18), .inl (cA 0, (Md_places s0).1, .inl (Md_places s0).2)), ((ad0 0), .inl (cA 0, (Md_written s0).1, .inl (Md_written s0).2)), ((ad0 1), .inl (cA 0, (Md_other s0).1, .inl (Md_other s0).2))]) (lv' := [(0, .ref (ob0 0)), (1, .int p0), (2, .int p1), (3, .int p2), (4, .int o52), (5, .int o58), (6, .int (o105.1)), (7, .int (o105.2))]) rfl rfl ?_
            refine x_iload F d_Md_isLike_190 6 rfl ?_
            replace hm := xm_z_some hm
            obtain ⟨hz, hm⟩ := hm
            replace hm := xm_p_some hm
            obtain ⟨eo, c_o, d_o⟩ := hm
            subst eo
            refine x_sub [0, 1, 2, 3, 4, 5, 6, 7, 8, 9, 10, 11, 12, 13, 14, 15, 16, 17, 18, 19, 20] (by decide) ?_ (xe_i E (fun _ => 0) (by omega) (by omega) rfl hz d_Md_isLike_192)
            rfl
          · replace hm := xm_t hm c76
            refine x_iconst (v := (0 : Int32)) F d_Md_isLike_78 (by decide) ?_
            replace hm := xm_p_some hm
            obtain ⟨eo, c_o, d_o⟩ := hm
            subst eo
            refine x_sub [0, 1, 2, 3, 4, 5, 6, 7, 8, 9, 10, 11, 12, 13, 14, 15, 16, 17, 18, 19, 20] (by decide) ?_ (xe_i E (fun _ => 0) (by omega) (by omega) rfl xz_0 d_Md_isLike_79)
            rfl
  · replace hm := xm_t hm c63
    refine x_iconst (v := (1 : Int32)) F d_Md_isLike_29 (by decide) ?_
    replace hm := xm_p_some hm
    obtain ⟨eo, c_o, d_o⟩ := hm
    subst eo
    refine x_sub [0, 1, 2, 3, 4, 5, 6, 7, 8, 9, 10, 11, 12, 13, 14, 15, 16, 17, 18, 19, 20] (by decide) ?_ (xe_i E (fun _ => 0) (by omega) (by omega) rfl xz_1 d_Md_isLike_30)
    rfl
