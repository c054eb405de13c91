noncomputable def m_Ld_init (n : Nat)   : MO (S_Ld) := (xm_na (16 : Int32) (fun a4 => (xm_p (a4, (0 : Int32)))))
set_option maxHeartbeats 4000000 in
set_option maxRecDepth 100000 in
theorem c_Ld_init (l : Launch) (D : va_G) (cA : Nat → ClassId) (n : Nat) (q0 : Nat)  (out : S_Ld) (k : KC) (hm : m_Ld_init n   = some (out, k)) : XM l D cA y_Ld_init b_Ld_init 1 none 1 24 [.ref q0] (([(q0, .inr (1, [.null, .int (0 : Int32)]))])) k (fun _ => none) (fun ad => (w_Ld cA (xa [q0]) ad  out)) := by
  refine x_met (cc := b_Ld_init) (nL := 1) (ret := none) R_Ld (by decide) (Nat.le_of_ble_eq_true rfl) rfl (fun X F I E => ?_)
  unfold m_Ld_init at hm
  refine x_nf2 (ws' := [(q0, .inr (1, [.null, .int (0 : Int32)]))]) (lv' := [(0, .ref q0)]) rfl rfl ?_
  refine x_aload_n F d_Ld_init_0 0 rfl rfl ?_
  refine x_objInit F kt_103_0 kt_57_1 kt_58_2 (by decide) (Nat.le_of_ble_eq_true rfl) d_Ld_init_1 ?_
  refine x_aload_n F d_Ld_init_4 0 rfl rfl ?_
  refine x_bipush (v := (16 : Int32)) F d_Ld_init_5 (by decide) ?_
  replace hm := xm_na_some hm
  obtain ⟨a4, k6, e_a4, n_a4, b_a4, hm, c_a4, d_a4⟩ := hm
  refine x_newa (x := a4) F kw_97 e_a4 n_a4 b_a4 (by omega) (by omega) d_Ld_init_7 (fun q_5 => ?_)
  refine x_nf (ws' := [(q0, .inr (1, [.null, .int (0 : Int32)])), (q_5, .inl (cA 0, a4.1, .inl a4.2))]) (st' := [.ref q_5, .ref q0]) rfl rfl ?_
  refine x_put (ws' := [(q0, .inr (1, [.ref q_5, .int (0 : Int32)])), (q_5, .inl (cA 0, a4.1, .inl a4.2))]) F ck_Ld hin_Ld 0 0 rfl (by decide) kw_104 rfl rfl rfl rfl (Nat.le_of_ble_eq_true rfl) rfl d_Ld_init_9 ?_
  refine x_aload_n F d_Ld_init_12 0 rfl rfl ?_
  refine x_iconst (v := (0 : Int32)) F d_Ld_init_13 (by decide) ?_
  refine x_put (ws' := [(q0, .inr (1, [.ref q_5, .int (0 : Int32)])), (q_5, .inl (cA 0, a4.1, .inl a4.2))]) F ck_Ld hin_Ld 0 1 rfl (by decide) kw_106 rfl rfl rfl rfl (Nat.le_of_ble_eq_true rfl) rfl d_Ld_init_14 ?_
  replace hm := xm_p_some hm
  obtain ⟨eo, c_o, d_o⟩ := hm
  subst eo
  refine x_sub [0, 1] (by decide) ?_ (xe_v E (xa [q_5]) (by omega) (by omega)  d_Ld_init_17)
  rfl

noncomputable def m_Ld_empty (n : Nat) (s0 : S_Ld)  : MO (S_Ld) := (xm_p ((Ld_row s0), (0 : Int32)))
set_option maxHeartbeats 4000000 in
set_option maxRecDepth 100000 in
theorem c_Ld_empty (l : Launch) (D : va_G) (cA : Nat → ClassId) (n : Nat) (ob0 ad0 : Nat → Nat) (s0 : S_Ld)  (out : S_Ld) (k : KC) (hm : m_Ld_empty n s0  = some (out, k)) : XM l D cA y_Ld_empty b_Ld_empty 1 none 0 0 [.ref (ob0 0)] ((w_Ld cA ob0 ad0  s0)) k (fun _ => none) (fun ad => (w_Ld cA ob0 ad  out)) := by
  refine x_met (cc := b_Ld_empty) (nL := 1) (ret := none) R_Ld (by decide) (Nat.le_of_ble_eq_true rfl) rfl (fun X F I E => ?_)
  unfold m_Ld_empty at hm
  refine x_nf2 (ws' := [((ob0 0), .inr (1, [.ref (ad0 0), .int (Ld_size s0)])), ((ad0 0), .inl (cA 0, (Ld_row s0).1, .inl (Ld_row s0).2))]) (lv' := [(0, .ref (ob0 0))]) rfl rfl ?_
  refine x_aload_n F d_Ld_empty_0 0 rfl rfl ?_
  refine x_iconst (v := (0 : Int32)) F d_Ld_empty_1 (by decide) ?_
  refine x_put (ws' := [((ob0 0), .inr (1, [.ref (ad0 0), .int (0 : Int32)])), ((ad0 0), .inl (cA 0, (Ld_row s0).1, .inl (Ld_row s0).2))]) F ck_Ld hin_Ld 0 1 rfl (by decide) kw_106 rfl rfl rfl rfl (Nat.le_of_ble_eq_true rfl) rfl d_Ld_empty_2 ?_
  replace hm := xm_p_some hm
  obtain ⟨eo, c_o, d_o⟩ := hm
  subst eo
  refine x_sub [0, 1] (by decide) ?_ (xe_v E ad0 (by omega) (by omega)  d_Ld_empty_5)
  rfl

noncomputable def m_Ja_copyOf (n : Nat) (x0_ : Ar) (p1 : Int32) : MO (Ar) := (if p1 = (nI (x0_).1) then none else (xm_na p1 (fun a7 => (xm_cp x0_ a7 (0 : Int32) (0 : Int32) (if p1 < (nI (x0_).1) then p1 else (nI (x0_).1)) (fun a10 => (xm_p a10))))))
set_option maxHeartbeats 4000000 in
set_option maxRecDepth 100000 in
theorem c_Ja_copyOf (l : Launch) (D : va_G) (cA : Nat → ClassId) (n : Nat) (q0 : Nat) (x0_ : Ar) (p1 : Int32) (out : Ar) (k : KC) (hm : m_Ja_copyOf n x0_ p1 = some (out, k)) : XM l D cA y_Ja_copyOf b_Ja_copyOf 3 (some (FieldType.array FieldType.int)) 1 64 [.ref q0, .int p1] (([(q0, .inl (cA 0, x0_.1, .inl x0_.2))])) k (fun ad => some (.ref (ad 0))) (fun ad => ([(q0, .inl (cA 0, x0_.1, .inl x0_.2))]) ++ ([((ad 0), .inl (cA 0, (out).1, .inl (out).2))])) := by
  refine x_met (cc := b_Ja_copyOf) (nL := 3) (ret := (some (FieldType.array FieldType.int))) R_Ja (by decide) (Nat.le_of_ble_eq_true rfl) rfl (fun X F I E => ?_)
  unfold m_Ja_copyOf at hm
  refine x_nf2 (ws' := [(q0, .inl (cA 0, x0_.1, .inl x0_.2))]) (lv' := [(0, .ref q0), (1, .int p1)]) rfl rfl ?_
  refine x_iload_n F d_Ja_copyOf_0 1 rfl rfl ?_
  refine x_aload_n F d_Ja_copyOf_1 0 rfl rfl ?_
  refine x_alen (x := x0_) F 0 rfl d_Ja_copyOf_2 ?_
  refine x_icmp_ne F 14 d_Ja_copyOf_3 (by decide) (fun c6 => ?_) (fun c6 => ?_)
  · replace hm := xm_f hm c6
    refine x_iload_n F d_Ja_copyOf_14 1 rfl rfl ?_
    replace hm := xm_na_some hm
    obtain ⟨a7, k9, e_a7, n_a7, b_a7, hm, c_a7, d_a7⟩ := hm
    refine x_newa (x := a7) F kw_97 e_a7 n_a7 b_a7 (by omega) (by omega) d_Ja_copyOf_15 (fun q_8 => ?_)
    refine x_nf (ws' := [(q0, .inl (cA 0, x0_.1, .inl x0_.2)), (q_8, .inl (cA 0, a7.1, .inl a7.2))]) (st' := [.ref q_8]) rfl rfl ?_
    refine x_astore_n (lv' := [(2, .ref q_8), (0, .ref q0), (1, .int p1)]) F d_Ja_copyOf_17 rfl (by decide) rfl ?_
    refine x_aload_n F d_Ja_copyOf_18 1 rfl rfl ?_
    refine x_iconst (v := (0 : Int32)) F d_Ja_copyOf_19 (by decide) ?_
    refine x_aload_n F d_Ja_copyOf_20 0 rfl rfl ?_
    refine x_iconst (v := (0 : Int32)) F d_Ja_copyOf_21 (by decide) ?_
    refine x_aload_n F d_Ja_copyOf_22 1 rfl rfl ?_
    refine x_alen (x := x0_) F 0 rfl d_Ja_copyOf_23 ?_
    refine x_iload_n F d_Ja_copyOf_24 2 rfl rfl ?_
    refine x_min F kt_327_3 kt_328_4 kw_48 kt_329_5 (by decide) (Nat.le_of_ble_eq_true rfl) (by omega) (by omega) d_Ja_copyOf_25 ?_
    replace hm := xm_cp_some hm
    obtain ⟨a10, e_a10, b_a10, hm⟩ := hm
    refine x_copy (x := x0_) (y := a7) (y' := a10) (ws' := [(q0, .inl (cA 0, x0_.1, .inl x0_.2)), (q_8, .inl (cA 0, a10.1, .inl a10.2))]) F kt_330_6 kt_332_7 kt_331_8 kw_50 0 1 rfl rfl b_a10 e_a10 rfl (by decide) (Nat.le_of_ble_eq_true rfl) d_Ja_copyOf_28 ?_
    refine x_aload_n F d_Ja_copyOf_31 0 rfl rfl ?_
    replace hm := xm_p_some hm
    obtain ⟨eo, c_o, d_o⟩ := hm
    subst eo
    refine x_sub [0, 1] (by decide) ?_ (xe_r E (xa [q_8]) (by omega) (by omega) rfl (Or.inr ⟨_, rfl⟩) d_Ja_copyOf_32)
    rfl
  · replace hm := xm_t hm c6
    refine x_aload_n F d_Ja_copyOf_6 0 rfl rfl ?_
    cases hm

noncomputable def m_Ts_withRoom (n : Nat) (x0_ : Ar) (p1 : Int32) : MO (Ar) := (if (nI (x0_).1) < p1 then (xm_b (m_Ja_copyOf n x0_ (if p1 < ((2 : Int32) * (nI (x0_).1)) then ((2 : Int32) * (nI (x0_).1)) else p1)) (fun o8 => (xm_p o8))) else (xm_p x0_))
set_option maxHeartbeats 4000000 in
set_option maxRecDepth 100000 in
theorem c_Ts_withRoom (l : Launch) (D : va_G) (cA : Nat → ClassId) (n : Nat) (q0 : Nat) (x0_ : Ar) (p1 : Int32) (out : Ar) (k : KC) (hm : m_Ts_withRoom n x0_ p1 = some (out, k)) : XM l D cA y_Ts_withRoom b_Ts_withRoom 2 (some (FieldType.array FieldType.int)) 2 86 [.ref q0, .int p1] (([(q0, .inl (cA 0, x0_.1, .inl x0_.2))])) k (fun ad => some (.ref (ad 0))) (fun ad => ([((ad 0), .inl (cA 0, (out).1, .inl (out).2))])) := by
  refine x_met (cc := b_Ts_withRoom) (nL := 2) (ret := (some (FieldType.array FieldType.int))) R_Ts (by decide) (Nat.le_of_ble_eq_true rfl) rfl (fun X F I E => ?_)
  unfold m_Ts_withRoom at hm
  refine x_nf2 (ws' := [(q0, .inl (cA 0, x0_.1, .inl x0_.2))]) (lv' := [(0, .ref q0), (1, .int p1)]) rfl rfl ?_
  refine x_iload_n F d_Ts_withRoom_0 1 rfl rfl ?_
  refine x_aload_n F d_Ts_withRoom_1 0 rfl rfl ?_
  refine x_alen (x := x0_) F 0 rfl d_Ts_withRoom_2 ?_
  refine x_icmp_gt F 8 d_Ts_withRoom_3 (by decide) (fun c7 => ?_) (fun c7 => ?_)
  · replace hm := xm_t hm c7
    refine x_aload_n F d_Ts_withRoom_8 0 rfl rfl ?_
    refine x_iload_n F d_Ts_withRoom_9 1 rfl rfl ?_
    refine x_iconst (v := (2 : Int32)) F d_Ts_withRoom_10 (by decide) ?_
    refine x_aload_n F d_Ts_withRoom_11 0 rfl rfl ?_
    refine x_alen (x := x0_) F 0 rfl d_Ts_withRoom_12 ?_
    refine x_imul F d_Ts_withRoom_13 ?_
    refine x_max F kt_314_9 kt_315_10 kw_48 kt_316_11 (by decide) (Nat.le_of_ble_eq_true rfl) (by omega) (by omega) d_Ts_withRoom_14 ?_
    replace hm := xm_b_some hm
    obtain ⟨o8, k9, k10, h11, hm, c_o8, d_o8⟩ := hm
    refine x_callSO (n := 2) (wr := []) F (c_Ja_copyOf l D cA n q0 x0_ (if p1 < ((2 : Int32) * (nI (x0_).1)) then ((2 : Int32) * (nI (x0_).1)) else p1) o8 k9 h11) kw_319 kw_317 kw_318 kw_49 ⟨by decide, by decide, by decide +kernel⟩ rfl (by decide) (by decide) [0] [] rfl rfl (by decide) (by decide) (by decide) rfl (Nat.le_of_ble_eq_true rfl) (by omega) (by omega) d_Ts_withRoom_17 (fun ad12 => ?_)
    refine x_nf (ws' := [(q0, .inl (cA 0, x0_.1, .inl x0_.2)), ((ad12 0), .inl (cA 0, o8.1, .inl o8.2))]) (st' := [.ref (ad12 0)]) rfl rfl ?_
    replace hm := xm_p_some hm
    obtain ⟨eo, c_o, d_o⟩ := hm
    subst eo
    refine x_sub [1] (by decide) ?_ (xe_r E (xa [(ad12 0)]) (by omega) (by omega) rfl (Or.inr ⟨_, rfl⟩) d_Ts_withRoom_20)
    rfl
  · replace hm := xm_f hm c7
    refine x_aload_n F d_Ts_withRoom_6 0 rfl rfl ?_
    replace hm := xm_p_some hm
    obtain ⟨eo, c_o, d_o⟩ := hm
    subst eo
    refine x_sub [0] (by decide) ?_ (xe_r E (xa [q0]) (by omega) (by omega) rfl (Or.inr ⟨_, rfl⟩) d_Ts_withRoom_7)
    rfl

noncomputable def m_Ld_append (n : Nat) (s0 : S_Ld) (p0 : Int32) : MO (S_Ld) := (xm_b (m_Ts_withRoom n (Ld_row s0) ((Ld_size s0) + (1 : Int32))) (fun o7 => (xm_wr o7 (Ld_size s0) p0 (fun a12 => (xm_p (a12, ((Ld_size s0) + (1 : Int32))))))))
set_option maxHeartbeats 4000000 in
set_option maxRecDepth 100000 in
theorem c_Ld_append (l : Launch) (D : va_G) (cA : Nat → ClassId) (n : Nat) (ob0 ad0 : Nat → Nat) (s0 : S_Ld) (p0 : Int32) (out : S_Ld) (k : KC) (hm : m_Ld_append n s0 p0 = some (out, k)) : XM l D cA y_Ld_append b_Ld_append 2 none 3 107 [.ref (ob0 0), .int p0] ((w_Ld cA ob0 ad0  s0)) k (fun _ => none) (fun ad => (w_Ld cA ob0 ad  out)) := by
  refine x_met (cc := b_Ld_append) (nL := 2) (ret := none) R_Ld (by decide) (Nat.le_of_ble_eq_true rfl) rfl (fun X F I E => ?_)
  unfold m_Ld_append at hm
  refine x_nf2 (ws' := [((ob0 0), .inr (1, [.ref (ad0 0), .int (Ld_size s0)])), ((ad0 0), .inl (cA 0, (Ld_row s0).1, .inl (Ld_row s0).2))]) (lv' := [(0, .ref (ob0 0)), (1, .int p0)]) rfl rfl ?_
  refine x_aload_n F d_Ld_append_0 0 rfl rfl ?_
  refine x_aload_n F d_Ld_append_1 0 rfl rfl ?_
  refine x_get F ck_Ld hin_Ld 0 0 rfl (by decide) kw_104 rfl rfl d_Ld_append_2 ?_
  refine x_aload_n F d_Ld_append_5 0 rfl rfl ?_
  refine x_get F ck_Ld hin_Ld 0 1 rfl (by decide) kw_106 rfl rfl d_Ld_append_6 ?_
  refine x_iconst (v := (1 : Int32)) F d_Ld_append_9 (by decide) ?_
  refine x_iadd F d_Ld_append_10 ?_
  replace hm := xm_b_some hm
  obtain ⟨o7, k8, k9, h10, hm, c_o7, d_o7⟩ := hm
  refine x_callSN (n := 2) (host := "TreeStore") (wr := [((ob0 0), .inr (1, [.ref (ad0 0), .int (Ld_size s0)]))]) F (c_Ts_withRoom l D cA n (ad0 0) (Ld_row s0) ((Ld_size s0) + (1 : Int32)) o7 k8 h10) kw_313 kn_453 kw_39 kw_312 ⟨by decide, by decide, by decide +kernel⟩ rfl (by decide) (by decide) [1] [0] rfl rfl (by decide) (by decide) (by decide) rfl (Nat.le_of_ble_eq_true rfl) (by omega) (by omega) d_Ld_append_11 (fun ad11 => ?_)
  refine x_nf (ws' := [((ob0 0), .inr (1, [.ref (ad0 0), .int (Ld_size s0)])), ((ad11 0), .inl (cA 0, o7.1, .inl o7.2))]) (st' := [.ref (ad11 0), .ref (ob0 0)]) rfl rfl ?_
  refine x_put (ws' := [((ob0 0), .inr (1, [.ref (ad11 0), .int (Ld_size s0)])), ((ad11 0), .inl (cA 0, o7.1, .inl o7.2))]) F ck_Ld hin_Ld 0 0 rfl (by decide) kw_104 rfl rfl rfl rfl (Nat.le_of_ble_eq_true rfl) rfl d_Ld_append_14 ?_
  refine x_aload_n F d_Ld_append_17 0 rfl rfl ?_
  refine x_get F ck_Ld hin_Ld 0 0 rfl (by decide) kw_104 rfl rfl d_Ld_append_18 ?_
  refine x_aload_n F d_Ld_append_21 0 rfl rfl ?_
  refine x_get F ck_Ld hin_Ld 0 1 rfl (by decide) kw_106 rfl rfl d_Ld_append_22 ?_
  refine x_iload_n F d_Ld_append_25 1 rfl rfl ?_
  replace hm := xm_wr_some hm
  obtain ⟨a12, e_a12, b_a12, hm⟩ := hm
  refine x_iast (x := o7) (x' := a12) (ws' := [((ob0 0), .inr (1, [.ref (ad11 0), .int (Ld_size s0)])), ((ad11 0), .inl (cA 0, a12.1, .inl a12.2))]) F 1 rfl e_a12 b_a12 rfl d_Ld_append_26 ?_
  refine x_aload_n F d_Ld_append_27 0 rfl rfl ?_
  refine x_dup F d_Ld_append_28 rfl ?_
  refine x_get F ck_Ld hin_Ld 0 1 rfl (by decide) kw_106 rfl rfl d_Ld_append_29 ?_
  refine x_iconst (v := (1 : Int32)) F d_Ld_append_32 (by decide) ?_
  refine x_iadd F d_Ld_append_33 ?_
  refine x_put (ws' := [((ob0 0), .inr (1, [.ref (ad11 0), .int ((Ld_size s0) + (1 : Int32))])), ((ad11 0), .inl (cA 0, a12.1, .inl a12.2))]) F ck_Ld hin_Ld 0 1 rfl (by decide) kw_106 rfl rfl rfl rfl (Nat.le_of_ble_eq_true rfl) rfl d_Ld_append_34 ?_
  replace hm := xm_p_some hm
  obtain ⟨eo, c_o, d_o⟩ := hm
  subst eo
  refine x_sub [0, 1] (by decide) ?_ (xe_v E ad11 (by omega) (by omega)  d_Ld_append_37)
  rfl

noncomputable def m_Ld_numbered (n : Nat) (s0 : S_Ld) (p0 : Int32) : MO (Int32) := (if p0 < 0 then (xm_p (-1 : Int32)) else (if (Ld_size s0) ≤ p0 then (xm_p (-1 : Int32)) else (xm_rd (Ld_row s0) p0 (fun v6 => (xm_p v6)))))
set_option maxHeartbeats 4000000 in
set_option maxRecDepth 100000 in
theorem c_Ld_numbered (l : Launch) (D : va_G) (cA : Nat → ClassId) (n : Nat) (ob0 ad0 : Nat → Nat) (s0 : S_Ld) (p0 : Int32) (out : Int32) (k : KC) (hm : m_Ld_numbered n s0 p0 = some (out, k)) : XM l D cA y_Ld_numbered b_Ld_numbered 2 (some FieldType.int) 0 0 [.ref (ob0 0), .int p0] ((w_Ld cA ob0 ad0  s0)) k (fun _ => some (.int out)) (fun ad => (w_Ld cA ob0 ad0  s0)) := by
  refine x_met (cc := b_Ld_numbered) (nL := 2) (ret := (some FieldType.int)) R_Ld (by decide) (Nat.le_of_ble_eq_true rfl) rfl (fun X F I E => ?_)
  unfold m_Ld_numbered at hm
  refine x_nf2 (ws' := [((ob0 0), .inr (1, [.ref (ad0 0), .int (Ld_size s0)])), ((ad0 0), .inl (cA 0, (Ld_row s0).1, .inl (Ld_row s0).2))]) (lv' := [(0, .ref (ob0 0)), (1, .int p0)]) rfl rfl ?_
  refine x_iload_n F d_Ld_numbered_0 1 rfl rfl ?_
  refine x_if_lt F 21 d_Ld_numbered_1 (by decide) (fun c4 => ?_) (fun c4 => ?_)
  · replace hm := xm_t hm c4
    refine x_iconst (v := (-1 : Int32)) F d_Ld_numbered_21 (by decide) ?_
    replace hm := xm_p_some hm
    obtain ⟨eo, c_o, d_o⟩ := hm
    subst eo
    refine x_sub [0, 1] (by decide) ?_ (xe_i E (fun _ => 0) (by omega) (by omega) rfl rfl d_Ld_numbered_22)
    rfl
  · replace hm := xm_f hm c4
    refine x_iload_n F d_Ld_numbered_4 1 rfl rfl ?_
    refine x_aload_n F d_Ld_numbered_5 0 rfl rfl ?_
    refine x_get F ck_Ld hin_Ld 0 1 rfl (by decide) kw_106 rfl rfl d_Ld_numbered_6 ?_
    refine x_icmp_ge F 21 d_Ld_numbered_9 (by decide) (fun c5 => ?_) (fun c5 => ?_)
    · replace hm := xm_t hm c5
      refine x_iconst (v := (-1 : Int32)) F d_Ld_numbered_21 (by decide) ?_
      replace hm := xm_p_some hm
      obtain ⟨eo, c_o, d_o⟩ := hm
      subst eo
      refine x_sub [0, 1] (by decide) ?_ (xe_i E (fun _ => 0) (by omega) (by omega) rfl rfl d_Ld_numbered_22)
      rfl
    · replace hm := xm_f hm c5
      refine x_aload_n F d_Ld_numbered_12 0 rfl rfl ?_
      refine x_get F ck_Ld hin_Ld 0 0 rfl (by decide) kw_104 rfl rfl d_Ld_numbered_13 ?_
      refine x_iload_n F d_Ld_numbered_16 1 rfl rfl ?_
      replace hm := xm_rd_some hm
      obtain ⟨v6, e_v6, b_v6, hm⟩ := hm
      refine x_iald (x := (Ld_row s0)) F 1 rfl e_v6 b_v6 d_Ld_numbered_17 ?_
      refine x_goto F 22 d_Ld_numbered_18 (by decide) ?_
      replace hm := xm_p_some hm
      obtain ⟨eo, c_o, d_o⟩ := hm
      subst eo
      refine x_sub [0, 1] (by decide) ?_ (xe_i E (fun _ => 0) (by omega) (by omega) rfl rfl d_Ld_numbered_22)
      rfl

noncomputable def m_Ld_become (n : Nat) (s0 : S_Ld) (s1 : S_Ld)  : MO (S_Ld) := (xm_b (m_Ts_withRoom n (Ld_row s0) (Ld_size s1)) (fun o7 => (xm_cp (Ld_row s1) o7 (0 : Int32) (0 : Int32) (Ld_size s1) (fun a12 => (xm_p (a12, (Ld_size s1)))))))
set_option maxHeartbeats 4000000 in
set_option maxRecDepth 100000 in
theorem c_Ld_become (l : Launch) (D : va_G) (cA : Nat → ClassId) (n : Nat) (ob0 ad0 : Nat → Nat) (s0 : S_Ld) (ob1 ad1 : Nat → Nat) (s1 : S_Ld)  (out : S_Ld) (k : KC) (hm : m_Ld_become n s0 s1  = some (out, k)) : XM l D cA y_Ld_become b_Ld_become 2 none 3 107 [.ref (ob0 0), .ref (ob1 0)] ((w_Ld cA ob0 ad0  s0) ++ (w_Ld cA ob1 ad1  s1)) k (fun _ => none) (fun ad => (w_Ld cA ob0 ad  out) ++ (w_Ld cA ob1 ad1  s1)) := by
  refine x_met (cc := b_Ld_become) (nL := 2) (ret := none) R_Ld (by decide) (Nat.le_of_ble_eq_true rfl) rfl (fun X F I E => ?_)
  unfold m_Ld_become at hm
  refine x_nf2 (ws' := [((ob0 0), .inr (1, [.ref (ad0 0), .int (Ld_size s0)])), ((ad0 0), .inl (cA 0, (Ld_row s0).1, .inl (Ld_row s0).2)), ((ob1 0), .inr (1, [.ref (ad1 0), .int (Ld_size s1)])), ((ad1 0), .inl (cA 0, (Ld_row s1).1, .inl (Ld_row s1).2))]) (lv' := [(0, .ref (ob0 0)), (1, .ref (ob1 0))]) rfl rfl ?_
  refine x_aload_n F d_Ld_become_0 0 rfl rfl ?_
  refine x_aload_n F d_Ld_become_1 0 rfl rfl ?_
  refine x_get F ck_Ld hin_Ld 0 0 rfl (by decide) kw_104 rfl rfl d_Ld_become_2 ?_
  refine x_aload_n F d_Ld_become_5 1 rfl rfl ?_
  refine x_get F ck_Ld hin_Ld 2 1 rfl (by decide) kw_106 rfl rfl d_Ld_become_6 ?_
  replace hm := xm_b_some hm
  obtain ⟨o7, k8, k9, h10, hm, c_o7, d_o7⟩ := hm
  refine x_callSN (n := 2) (host := "TreeStore") (wr := [((ob0 0), .inr (1, [.ref (ad0 0), .int (Ld_size s0)])), ((ob1 0), .inr (1, [.ref (ad1 0), .int (Ld_size s1)])), ((ad1 0), .inl (cA 0, (Ld_row s1).1, .inl (Ld_row s1).2))]) F (c_Ts_withRoom l D cA n (ad0 0) (Ld_row s0) (Ld_size s1) o7 k8 h10) kw_313 kn_453 kw_39 kw_312 ⟨by decide, by decide, by decide +kernel⟩ rfl (by decide) (by decide) [1] [0, 2, 3] rfl rfl (by decide) (by decide) (by decide) rfl (Nat.le_of_ble_eq_true rfl) (by omega) (by omega) d_Ld_become_9 (fun ad11 => ?_)
  refine x_nf (ws' := [((ob0 0), .inr (1, [.ref (ad0 0), .int (Ld_size s0)])), ((ob1 0), .inr (1, [.ref (ad1 0), .int (Ld_size s1)])), ((ad1 0), .inl (cA 0, (Ld_row s1).1, .inl (Ld_row s1).2)), ((ad11 0), .inl (cA 0, o7.1, .inl o7.2))]) (st' := [.ref (ad11 0), .ref (ob0 0)]) rfl rfl ?_
  refine x_put (ws' := [((ob0 0), .inr (1, [.ref (ad11 0), .int (Ld_size s0)])), ((ob1 0), .inr (1, [.ref (ad1 0), .int (Ld_size s1)])), ((ad1 0), .inl (cA 0, (Ld_row s1).1, .inl (Ld_row s1).2)), ((ad11 0), .inl (cA 0, o7.1, .inl o7.2))]) F ck_Ld hin_Ld 0 0 rfl (by decide) kw_104 rfl rfl rfl rfl (Nat.le_of_ble_eq_true rfl) rfl d_Ld_become_12 ?_
  refine x_aload_n F d_Ld_become_15 1 rfl rfl ?_
  refine x_get F ck_Ld hin_Ld 1 0 rfl (by decide) kw_104 rfl rfl d_Ld_become_16 ?_
  refine x_iconst (v := (0 : Int32)) F d_Ld_become_19 (by decide) ?_
  refine x_aload_n F d_Ld_become_20 0 rfl rfl ?_
  refine x_get F ck_Ld hin_Ld 0 0 rfl (by decide) kw_104 rfl rfl d_Ld_become_21 ?_
  refine x_iconst (v := (0 : Int32)) F d_Ld_become_24 (by decide) ?_
  refine x_aload_n F d_Ld_become_25 1 rfl rfl ?_
  refine x_get F ck_Ld hin_Ld 1 1 rfl (by decide) kw_106 rfl rfl d_Ld_become_26 ?_
  replace hm := xm_cp_some hm
  obtain ⟨a12, e_a12, b_a12, hm⟩ := hm
  refine x_copy (x := (Ld_row s1)) (y := o7) (y' := a12) (ws' := [((ob0 0), .inr (1, [.ref (ad11 0), .int (Ld_size s0)])), ((ob1 0), .inr (1, [.ref (ad1 0), .int (Ld_size s1)])), ((ad1 0), .inl (cA 0, (Ld_row s1).1, .inl (Ld_row s1).2)), ((ad11 0), .inl (cA 0, a12.1, .inl a12.2))]) F kt_462_12 kt_332_7 kt_331_8 kw_50 2 3 rfl rfl b_a12 e_a12 rfl (by decide) (Nat.le_of_ble_eq_true rfl) d_Ld_become_29 ?_
  refine x_aload_n F d_Ld_become_32 0 rfl rfl ?_
  refine x_aload_n F d_Ld_become_33 1 rfl rfl ?_
  refine x_get F ck_Ld hin_Ld 1 1 rfl (by decide) kw_106 rfl rfl d_Ld_become_34 ?_
  refine x_put (ws' := [((ob0 0), .inr (1, [.ref (ad11 0), .int (Ld_size s1)])), ((ob1 0), .inr (1, [.ref (ad1 0), .int (Ld_size s1)])), ((ad1 0), .inl (cA 0, (Ld_row s1).1, .inl (Ld_row s1).2)), ((ad11 0), .inl (cA 0, a12.1, .inl a12.2))]) F ck_Ld hin_Ld 0 1 rfl (by decide) kw_106 rfl rfl rfl rfl (Nat.le_of_ble_eq_true rfl) rfl d_Ld_become_37 ?_
  replace hm := xm_p_some hm
  obtain ⟨eo, c_o, d_o⟩ := hm
  subst eo
  refine x_sub [0, 3, 1, 2] (by decide) ?_ (xe_v E ad11 (by omega) (by omega)  d_Ld_become_40)
  rfl
