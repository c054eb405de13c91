noncomputable def m_Ja_copyOf (n : Nat) (x0_ : Ar) (p1 : Int32) : MO (Ar) := (if p1 = (nI (x0_).1) then none else (xm_na p1 (fun a7 => (xm_cp x0_ a7 (0 : Int32) (0 : Int32) (if p1 < (nI (x0_).1) then p1 else (nI (x0_).1)) (fun a10 => (xm_p a10))))))
set_option maxHeartbeats 4000000 in
set_option maxRecDepth 100000 in
theorem c_Ja_copyOf (l : Launch) (D : va_G) (cA : Nat → ClassId) (n : Nat) (q0 : Nat) (x0_ : Ar) (p1 : Int32) (out : Ar) (k : KC) (hm : m_Ja_copyOf n x0_ p1 = some (out, k)) : XM l D cA y_Ja_copyOf b_Ja_copyOf 3 (some (FieldType.array FieldType.int)) 1 64 [.ref q0, .int p1] (([(q0, .inl (cA 0, x0_.1, .inl x0_.2))])) k (fun ad => some (.ref (ad 0))) (fun ad => ([(q0, .inl (cA 0, x0_.1, .inl x0_.2))]) ++ ([((ad 0), .inl (cA 0, (out).1, .inl (out).2))])) := by
  refine x_met (cc := b_Ja_copyOf) (nL := 3) (ret := (some (FieldType.array FieldType.int))) R_Ja (by decide) (Nat.le_of_ble_eq_true rfl) rfl (fun X F I E => ?_)
  unfold m_Ja_copyOf at hm
  refine x_nf2 (ws' := [(q0, .inl (cA 0, x0_.1, .inl x0_.2))]) (lv' := [(0, .ref q0), (1, .int p1)]) rfl rfl ?_
  refine x_iload_n F d_Ja_copyOf_0 1 rfl rfl ?_
  refine x_aload_n F d_Ja_copyOf_1 0 rfl rfl ?_
  refine x_alen (x := x0_) F 0 rfl d_Ja_copyOf_2 ?_
  refine x_icmp_ne F 14 d_Ja_copyOf_3 (by decide) (fun c6 => ?_) (fun c6 => ?_)
  · replace hm := xm_f hm c6
    refine x_iload_n F d_Ja_copyOf_14 1 rfl rfl ?_
    replace hm := xm_na_some hm
    obtain ⟨a7, k9, e_a7, n_a7, b_a7, hm, c_a7, d_a7⟩ := hm
    refine x_newa (x := a7) F kw_97 e_a7 n_a7 b_a7 (by omega) (by omega) d_Ja_copyOf_15 (fun q_8 => ?_)
    refine x_nf (ws' := [(q0, .inl (cA 0, x0_.1, .inl x0_.2)), (q_8, .inl (cA 0, a7.1, .inl a7.2))]) (st' := [.ref q_8]) rfl rfl ?_
    refine x_astore_n (lv' := [(2, .ref q_8), (0, .ref q0), (1, .int p1)]) F d_Ja_copyOf_17 rfl (by decide) rfl ?_
    refine x_aload_n F d_Ja_copyOf_18 1 rfl rfl ?_
    refine x_iconst (v := (0 : Int32)) F d_Ja_copyOf_19 (by decide) ?_
    refine x_aload_n F d_Ja_copyOf_20 0 rfl rfl ?_
    refine x_iconst (v := (0 : Int32)) F d_Ja_copyOf_21 (by decide) ?_
    refine x_aload_n F d_Ja_copyOf_22 1 rfl rfl ?_
    refine x_alen (x := x0_) F 0 rfl d_Ja_copyOf_23 ?_
    refine x_iload_n F d_Ja_copyOf_24 2 rfl rfl ?_
    refine x_min F kt_327_0 kt_328_1 kw_48 kt_329_2 (by decide) (Nat.le_of_ble_eq_true rfl) (by omega) (by omega) d_Ja_copyOf_25 ?_
    replace hm := xm_cp_some hm
    obtain ⟨a10, e_a10, b_a10, hm⟩ := hm
    refine x_copy (x := x0_) (y := a7) (y' := a10) (ws' := [(q0, .inl (cA 0, x0_.1, .inl x0_.2)), (q_8, .inl (cA 0, a10.1, .inl a10.2))]) F kt_330_3 kt_332_4 kt_331_5 kw_50 0 1 rfl rfl b_a10 e_a10 rfl (by decide) (Nat.le_of_ble_eq_true rfl) d_Ja_copyOf_28 ?_
    refine x_aload_n F d_Ja_copyOf_31 0 rfl rfl ?_
    replace hm := xm_p_some hm
    obtain ⟨eo, c_o, d_o⟩ := hm
    subst eo
    refine x_sub [0, 1] (by decide) ?_ (xe_r E (xa [q_8]) (by omega) (by omega) rfl (Or.inr ⟨_, rfl⟩) d_Ja_copyOf_32)
    rfl
  · replace hm := xm_t hm c6
    refine x_aload_n F d_Ja_copyOf_6 0 rfl rfl ?_
    cases hm

noncomputable def m_Ld_init (n : Nat)   : MO (S_Ld) := (xm_na (16 : Int32) (fun a4 => (xm_p (a4, (0 : Int32)))))
set_option maxHeartbeats 4000000 in
set_option maxRecDepth 100000 in
theorem c_Ld_init (l : Launch) (D : va_G) (cA : Nat → ClassId) (n : Nat) (q0 : Nat)  (out : S_Ld) (k : KC) (hm : m_Ld_init n   = some (out, k)) : XM l D cA y_Ld_init b_Ld_init 1 none 1 24 [.ref q0] (([(q0, .inr (1, [.null, .int (0 : Int32)]))])) k (fun _ => none) (fun ad => (w_Ld cA (xa [q0]) ad  out)) := by
  refine x_met (cc := b_Ld_init) (nL := 1) (ret := none) R_Ld (by decide) (Nat.le_of_ble_eq_true rfl) rfl (fun X F I E => ?_)
  unfold m_Ld_init at hm
  refine x_nf2 (ws' := [(q0, .inr (1, [.null, .int (0 : Int32)]))]) (lv' := [(0, .ref q0)]) rfl rfl ?_
  refine x_aload_n F d_Ld_init_0 0 rfl rfl ?_
  refine x_objInit F kt_103_6 kt_57_7 kt_58_8 (by decide) (Nat.le_of_ble_eq_true rfl) d_Ld_init_1 ?_
  refine x_aload_n F d_Ld_init_4 0 rfl rfl ?_
  refine x_bipush (v := (16 : Int32)) F d_Ld_init_5 (by decide) ?_
  replace hm := xm_na_some hm
  obtain ⟨a4, k6, e_a4, n_a4, b_a4, hm, c_a4, d_a4⟩ := hm
  refine x_newa (x := a4) F kw_97 e_a4 n_a4 b_a4 (by omega) (by omega) d_Ld_init_7 (fun q_5 => ?_)
  refine x_nf (ws' := [(q0, .inr (1, [.null, .int (0 : Int32)])), (q_5, .inl (cA 0, a4.1, .inl a4.2))]) (st' := [.ref q_5, .ref q0]) rfl rfl ?_
  refine x_put (ws' := [(q0, .inr (1, [.ref q_5, .int (0 : Int32)])), (q_5, .inl (cA 0, a4.1, .inl a4.2))]) F ck_Ld hin_Ld 0 0 rfl (by decide) kw_104 rfl rfl rfl rfl (Nat.le_of_ble_eq_true rfl) rfl d_Ld_init_9 ?_
  refine x_aload_n F d_Ld_init_12 0 rfl rfl ?_
  refine x_iconst (v := (0 : Int32)) F d_Ld_init_13 (by decide) ?_
  refine x_put (ws' := [(q0, .inr (1, [.ref q_5, .int (0 : Int32)])), (q_5, .inl (cA 0, a4.1, .inl a4.2))]) F ck_Ld hin_Ld 0 1 rfl (by decide) kw_106 rfl rfl rfl rfl (Nat.le_of_ble_eq_true rfl) rfl d_Ld_init_14 ?_
  replace hm := xm_p_some hm
  obtain ⟨eo, c_o, d_o⟩ := hm
  subst eo
  refine x_sub [0, 1] (by decide) ?_ (xe_v E (xa [q_5]) (by omega) (by omega)  d_Ld_init_17)
  rfl

noncomputable def m_Ld_empty (n : Nat) (s0 : S_Ld)  : MO (S_Ld) := (xm_p ((Ld_row s0), (0 : Int32)))
set_option maxHeartbeats 4000000 in
set_option maxRecDepth 100000 in
theorem c_Ld_empty (l : Launch) (D : va_G) (cA : Nat → ClassId) (n : Nat) (ob0 ad0 : Nat → Nat) (s0 : S_Ld)  (out : S_Ld) (k : KC) (hm : m_Ld_empty n s0  = some (out, k)) : XM l D cA y_Ld_empty b_Ld_empty 1 none 0 0 [.ref (ob0 0)] ((w_Ld cA ob0 ad0  s0)) k (fun _ => none) (fun ad => (w_Ld cA ob0 ad  out)) := by
  refine x_met (cc := b_Ld_empty) (nL := 1) (ret := none) R_Ld (by decide) (Nat.le_of_ble_eq_true rfl) rfl (fun X F I E => ?_)
  unfold m_Ld_empty at hm
  refine x_nf2 (ws' := [((ob0 0), .inr (1, [.ref (ad0 0), .int (Ld_size s0)])), ((ad0 0), .inl (cA 0, (Ld_row s0).1, .inl (Ld_row s0).2))]) (lv' := [(0, .ref (ob0 0))]) rfl rfl ?_
  refine x_aload_n F d_Ld_empty_0 0 rfl rfl ?_
  refine x_iconst (v := (0 : Int32)) F d_Ld_empty_1 (by decide) ?_
  refine x_put (ws' := [((ob0 0), .inr (1, [.ref (ad0 0), .int (0 : Int32)])), ((ad0 0), .inl (cA 0, (Ld_row s0).1, .inl (Ld_row s0).2))]) F ck_Ld hin_Ld 0 1 rfl (by decide) kw_106 rfl rfl rfl rfl (Nat.le_of_ble_eq_true rfl) rfl d_Ld_empty_2 ?_
  replace hm := xm_p_some hm
  obtain ⟨eo, c_o, d_o⟩ := hm
  subst eo
  refine x_sub [0, 1] (by decide) ?_ (xe_v E ad0 (by omega) (by omega)  d_Ld_empty_5)
  rfl

noncomputable def m_Ts_withRoom (n : Nat) (x0_ : Ar) (p1 : Int32) : MO (Ar) := (if (nI (x0_).1) < p1 then (xm_b (m_Ja_copyOf n x0_ (if p1 < ((2 : Int32) * (nI (x0_).1)) then ((2 : Int32) * (nI (x0_).1)) else p1)) (fun o8 => (xm_p o8))) else (xm_p x0_))
set_option maxHeartbeats 4000000 in
set_option maxRecDepth 100000 in
theorem c_Ts_withRoom (l : Launch) (D : va_G) (cA : Nat → ClassId) (n : Nat) (q0 : Nat) (x0_ : Ar) (p1 : Int32) (out : Ar) (k : KC) (hm : m_Ts_withRoom n x0_ p1 = some (out, k)) : XM l D cA y_Ts_withRoom b_Ts_withRoom 2 (some (FieldType.array FieldType.int)) 2 86 [.ref q0, .int p1] (([(q0, .inl (cA 0, x0_.1, .inl x0_.2))])) k (fun ad => some (.ref (ad 0))) (fun ad => ([((ad 0), .inl (cA 0, (out).1, .inl (out).2))])) := by
  refine x_met (cc := b_Ts_withRoom) (nL := 2) (ret := (some (FieldType.array FieldType.int))) R_Ts (by decide) (Nat.le_of_ble_eq_true rfl) rfl (fun X F I E => ?_)
  unfold m_Ts_withRoom at hm
  refine x_nf2 (ws' := [(q0, .inl (cA 0, x0_.1, .inl x0_.2))]) (lv' := [(0, .ref q0), (1, .int p1)]) rfl rfl ?_
  refine x_iload_n F d_Ts_withRoom_0 1 rfl rfl ?_
  refine x_aload_n F d_Ts_withRoom_1 0 rfl rfl ?_
  refine x_alen (x := x0_) F 0 rfl d_Ts_withRoom_2 ?_
  refine x_icmp_gt F 8 d_Ts_withRoom_3 (by decide) (fun c7 => ?_) (fun c7 => ?_)
  · replace hm := xm_t hm c7
    refine x_aload_n F d_Ts_withRoom_8 0 rfl rfl ?_
    refine x_iload_n F d_Ts_withRoom_9 1 rfl rfl ?_
    refine x_iconst (v := (2 : Int32)) F d_Ts_withRoom_10 (by decide) ?_
    refine x_aload_n F d_Ts_withRoom_11 0 rfl rfl ?_
    refine x_alen (x := x0_) F 0 rfl d_Ts_withRoom_12 ?_
    refine x_imul F d_Ts_withRoom_13 ?_
    refine x_max F kt_314_9 kt_315_10 kw_48 kt_316_11 (by decide) (Nat.le_of_ble_eq_true rfl) (by omega) (by omega) d_Ts_withRoom_14 ?_
    replace hm := xm_b_some hm
    obtain ⟨o8, k9, k10, h11, hm, c_o8, d_o8⟩ := hm
    refine x_callSO (n := 2) (wr := []) F (c_Ja_copyOf l D cA n q0 x0_ (if p1 < ((2 : Int32) * (nI (x0_).1)) then ((2 : Int32) * (nI (x0_).1)) else p1) o8 k9 h11) kw_319 kw_317 kw_318 kw_49 ⟨by decide, by decide, by decide +kernel⟩ rfl (by decide) (by decide) [0] [] rfl rfl (by decide) (by decide) (by decide) rfl (Nat.le_of_ble_eq_true rfl) (by omega) (by omega) d_Ts_withRoom_17 (fun ad12 => ?_)
    refine x_nf (ws' := [(q0, .inl (cA 0, x0_.1, .inl x0_.2)), ((ad12 0), .inl (cA 0, o8.1, .inl o8.2))]) (st' := [.ref (ad12 0)]) rfl rfl ?_
    replace hm := xm_p_some hm
    obtain ⟨eo, c_o, d_o⟩ := hm
    subst eo
    refine x_sub [1] (by decide) ?_ (xe_r E (xa [(ad12 0)]) (by omega) (by omega) rfl (Or.inr ⟨_, rfl⟩) d_Ts_withRoom_20)
    rfl
  · replace hm := xm_f hm c7
    refine x_aload_n F d_Ts_withRoom_6 0 rfl rfl ?_
    replace hm := xm_p_some hm
    obtain ⟨eo, c_o, d_o⟩ := hm
    subst eo
    refine x_sub [0] (by decide) ?_ (xe_r E (xa [q0]) (by omega) (by omega) rfl (Or.inr ⟨_, rfl⟩) d_Ts_withRoom_7)
    rfl

noncomputable def m_Ld_append (n : Nat) (s0 : S_Ld) (p0 : Int32) : MO (S_Ld) := (xm_b (m_Ts_withRoom n (Ld_row s0) ((Ld_size s0) + (1 : Int32))) (fun o7 => (xm_wr o7 (Ld_size s0) p0 (fun a12 => (xm_p (a12, ((Ld_size s0) + (1 : Int32))))))))
set_option maxHeartbeats 4000000 in
set_option maxRecDepth 100000 in
theorem c_Ld_append (l : Launch) (D : va_G) (cA : Nat → ClassId) (n : Nat) (ob0 ad0 : Nat → Nat) (s0 : S_Ld) (p0 : Int32) (out : S_Ld) (k : KC) (hm : m_Ld_append n s0 p0 = some (out, k)) : XM l D cA y_Ld_append b_Ld_append 2 none 3 107 [.ref (ob0 0), .int p0] ((w_Ld cA ob0 ad0  s0)) k (fun _ => none) (fun ad => (w_Ld cA ob0 ad  out)) := by
  refine x_met (cc := b_Ld_append) (nL := 2) (ret := none) R_Ld (by decide) (Nat.le_of_ble_eq_true rfl) rfl (fun X F I E => ?_)
  unfold m_Ld_append at hm
  refine x_nf2 (ws' := [((ob0 0), .inr (1, [.ref (ad0 0), .int (Ld_size s0)])), ((ad0 0), .inl (cA 0, (Ld_row s0).1, .inl (Ld_row s0).2))]) (lv' := [(0, .ref (ob0 0)), (1, .int p0)]) rfl rfl ?_
  refine x_aload_n F d_Ld_append_0 0 rfl rfl ?_
  refine x_aload_n F d_Ld_append_1 0 rfl rfl ?_
  refine x_get F ck_Ld hin_Ld 0 0 rfl (by decide) kw_104 rfl rfl d_Ld_append_2 ?_
  refine x_aload_n F d_Ld_append_5 0 rfl rfl ?_
  refine x_get F ck_Ld hin_Ld 0 1 rfl (by decide) kw_106 rfl rfl d_Ld_append_6 ?_
  refine x_iconst (v := (1 : Int32)) F d_Ld_append_9 (by decide) ?_
  refine x_iadd F d_Ld_append_10 ?_
  replace hm := xm_b_some hm
  obtain ⟨o7, k8, k9, h10, hm, c_o7, d_o7⟩ := hm
  refine x_callSN (n := 2) (host := "TreeStore") (wr := [((ob0 0), .inr (1, [.ref (ad0 0), .int (Ld_size s0)]))]) F (c_Ts_withRoom l D cA n (ad0 0) (Ld_row s0) ((Ld_size s0) + (1 : Int32)) o7 k8 h10) kw_313 kn_453 kw_39 kw_312 ⟨by decide, by decide, by decide +kernel⟩ rfl (by decide) (by decide) [1] [0] rfl rfl (by decide) (by decide) (by decide) rfl (Nat.le_of_ble_eq_true rfl) (by omega) (by omega) d_Ld_append_11 (fun ad11 => ?_)
  refine x_nf (ws' := [((ob0 0), .inr (1, [.ref (ad0 0), .int (Ld_size s0)])), ((ad11 0), .inl (cA 0, o7.1, .inl o7.2))]) (st' := [.ref (ad11 0), .ref (ob0 0)]) rfl rfl ?_
  refine x_put (ws' := [((ob0 0), .inr (1, [.ref (ad11 0), .int (Ld_size s0)])), ((ad11 0), .inl (cA 0, o7.1, .inl o7.2))]) F ck_Ld hin_Ld 0 0 rfl (by decide) kw_104 rfl rfl rfl rfl (Nat.le_of_ble_eq_true rfl) rfl d_Ld_append_14 ?_
  refine x_aload_n F d_Ld_append_17 0 rfl rfl ?_
  refine x_get F ck_Ld hin_Ld 0 0 rfl (by decide) kw_104 rfl rfl d_Ld_append_18 ?_
  refine x_aload_n F d_Ld_append_21 0 rfl rfl ?_
  refine x_get F ck_Ld hin_Ld 0 1 rfl (by decide) kw_106 rfl rfl d_Ld_append_22 ?_
  refine x_iload_n F d_Ld_append_25 1 rfl rfl ?_
  replace hm := xm_wr_some hm
  obtain ⟨a12, e_a12, b_a12, hm⟩ := hm
  refine x_iast (x := o7) (x' := a12) (ws' := [((ob0 0), .inr (1, [.ref (ad11 0), .int (Ld_size s0)])), ((ad11 0), .inl (cA 0, a12.1, .inl a12.2))]) F 1 rfl e_a12 b_a12 rfl d_Ld_append_26 ?_
  refine x_aload_n F d_Ld_append_27 0 rfl rfl ?_
  refine x_dup F d_Ld_append_28 rfl ?_
  refine x_get F ck_Ld hin_Ld 0 1 rfl (by decide) kw_106 rfl rfl d_Ld_append_29 ?_
  refine x_iconst (v := (1 : Int32)) F d_Ld_append_32 (by decide) ?_
  refine x_iadd F d_Ld_append_33 ?_
  refine x_put (ws' := [((ob0 0), .inr (1, [.ref (ad11 0), .int ((Ld_size s0) + (1 : Int32))])), ((ad11 0), .inl (cA 0, a12.1, .inl a12.2))]) F ck_Ld hin_Ld 0 1 rfl (by decide) kw_106 rfl rfl rfl rfl (Nat.le_of_ble_eq_true rfl) rfl d_Ld_append_34 ?_
  replace hm := xm_p_some hm
  obtain ⟨eo, c_o, d_o⟩ := hm
  subst eo
  refine x_sub [0, 1] (by decide) ?_ (xe_v E ad11 (by omega) (by omega)  d_Ld_append_37)
  rfl

noncomputable def m_Ld_numbered (n : Nat) (s0 : S_Ld) (p0 : Int32) : MO (Int32) := (if p0 < 0 then (xm_p (-1 : Int32)) else (if (Ld_size s0) ≤ p0 then (xm_p (-1 : Int32)) else (xm_rd (Ld_row s0) p0 (fun v6 => (xm_p v6)))))
set_option maxHeartbeats 4000000 in
set_option maxRecDepth 100000 in
theorem c_Ld_numbered (l : Launch) (D : va_G) (cA : Nat → ClassId) (n : Nat) (ob0 ad0 : Nat → Nat) (s0 : S_Ld) (p0 : Int32) (out : Int32) (k : KC) (hm : m_Ld_numbered n s0 p0 = some (out, k)) : XM l D cA y_Ld_numbered b_Ld_numbered 2 (some FieldType.int) 0 0 [.ref (ob0 0), .int p0] ((w_Ld cA ob0 ad0  s0)) k (fun _ => some (.int out)) (fun ad => (w_Ld cA ob0 ad0  s0)) := by
  refine x_met (cc := b_Ld_numbered) (nL := 2) (ret := (some FieldType.int)) R_Ld (by decide) (Nat.le_of_ble_eq_true rfl) rfl (fun X F I E => ?_)
  unfold m_Ld_numbered at hm
  refine x_nf2 (ws' := [((ob0 0), .inr (1, [.ref (ad0 0), .int (Ld_size s0)])), ((ad0 0), .inl (cA 0, (Ld_row s0).1, .inl (Ld_row s0).2))]) (lv' := [(0, .ref (ob0 0)), (1, .int p0)]) rfl rfl ?_
  refine x_iload_n F d_Ld_numbered_0 1 rfl rfl ?_
  refine x_if_lt F 21 d_Ld_numbered_1 (by decide) (fun c4 => ?_) (fun c4 => ?_)
  · replace hm := xm_t hm c4
    refine x_iconst (v := (-1 : Int32)) F d_Ld_numbered_21 (by decide) ?_
    replace hm := xm_p_some hm
    obtain ⟨eo, c_o, d_o⟩ := hm
    subst eo
    refine x_sub [0, 1] (by decide) ?_ (xe_i E (fun _ => 0) (by omega) (by omega) rfl (xz_i _) d_Ld_numbered_22)
    rfl
  · replace hm := xm_f hm c4
    refine x_iload_n F d_Ld_numbered_4 1 rfl rfl ?_
    refine x_aload_n F d_Ld_numbered_5 0 rfl rfl ?_
    refine x_get F ck_Ld hin_Ld 0 1 rfl (by decide) kw_106 rfl rfl d_Ld_numbered_6 ?_
    refine x_icmp_ge F 21 d_Ld_numbered_9 (by decide) (fun c5 => ?_) (fun c5 => ?_)
    · replace hm := xm_t hm c5
      refine x_iconst (v := (-1 : Int32)) F d_Ld_numbered_21 (by decide) ?_
      replace hm := xm_p_some hm
      obtain ⟨eo, c_o, d_o⟩ := hm
      subst eo
      refine x_sub [0, 1] (by decide) ?_ (xe_i E (fun _ => 0) (by omega) (by omega) rfl (xz_i _) d_Ld_numbered_22)
      rfl
    · replace hm := xm_f hm c5
      refine x_aload_n F d_Ld_numbered_12 0 rfl rfl ?_
      refine x_get F ck_Ld hin_Ld 0 0 rfl (by decide) kw_104 rfl rfl d_Ld_numbered_13 ?_
      refine x_iload_n F d_Ld_numbered_16 1 rfl rfl ?_
      replace hm := xm_rd_some hm
      obtain ⟨v6, e_v6, b_v6, hm⟩ := hm
      refine x_iald (x := (Ld_row s0)) F 1 rfl e_v6 b_v6 d_Ld_numbered_17 ?_
      refine x_goto F 22 d_Ld_numbered_18 (by decide) ?_
      replace hm := xm_p_some hm
      obtain ⟨eo, c_o, d_o⟩ := hm
      subst eo
      refine x_sub [0, 1] (by decide) ?_ (xe_i E (fun _ => 0) (by omega) (by omega) rfl (xz_i _) d_Ld_numbered_22)
      rfl

noncomputable def m_Ld_become (n : Nat) (s0 : S_Ld) (s1 : S_Ld)  : MO (S_Ld) := (xm_b (m_Ts_withRoom n (Ld_row s0) (Ld_size s1)) (fun o7 => (xm_cp (Ld_row s1) o7 (0 : Int32) (0 : Int32) (Ld_size s1) (fun a12 => (xm_p (a12, (Ld_size s1)))))))
set_option maxHeartbeats 4000000 in
set_option maxRecDepth 100000 in
theorem c_Ld_become (l : Launch) (D : va_G) (cA : Nat → ClassId) (n : Nat) (ob0 ad0 : Nat → Nat) (s0 : S_Ld) (ob1 ad1 : Nat → Nat) (s1 : S_Ld)  (out : S_Ld) (k : KC) (hm : m_Ld_become n s0 s1  = some (out, k)) : XM l D cA y_Ld_become b_Ld_become 2 none 3 107 [.ref (ob0 0), .ref (ob1 0)] ((w_Ld cA ob0 ad0  s0) ++ (w_Ld cA ob1 ad1  s1)) k (fun _ => none) (fun ad => (w_Ld cA ob0 ad  out) ++ (w_Ld cA ob1 ad1  s1)) := by
  refine x_met (cc := b_Ld_become) (nL := 2) (ret := none) R_Ld (by decide) (Nat.le_of_ble_eq_true rfl) rfl (fun X F I E => ?_)
  unfold m_Ld_become at hm
  refine x_nf2 (ws' := [((ob0 0), .inr (1, [.ref (ad0 0), .int (Ld_size s0)])), ((ad0 0), .inl (cA 0, (Ld_row s0).1, .inl (Ld_row s0).2)), ((ob1 0), .inr (1, [.ref (ad1 0), .int (Ld_size s1)])), ((ad1 0), .inl (cA 0, (Ld_row s1).1, .inl (Ld_row s1).2))]) (lv' := [(0, .ref (ob0 0)), (1, .ref (ob1 0))]) rfl rfl ?_
  refine x_aload_n F d_Ld_become_0 0 rfl rfl ?_
  refine x_aload_n F d_Ld_become_1 0 rfl rfl ?_
  refine x_get F ck_Ld hin_Ld 0 0 rfl (by decide) kw_104 rfl rfl d_Ld_become_2 ?_
  refine x_aload_n F d_Ld_become_5 1 rfl rfl ?_
  refine x_get F ck_Ld hin_Ld 2 1 rfl (by decide) kw_106 rfl rfl d_Ld_become_6 ?_
  replace hm := xm_b_some hm
  obtain ⟨o7, k8, k9, h10, hm, c_o7, d_o7⟩ := hm
  refine x_callSN (n := 2) (host := "TreeStore") (wr := [((ob0 0), .inr (1, [.ref (ad0 0), .int (Ld_size s0)])), ((ob1 0), .inr (1, [.ref (ad1 0), .int (Ld_size s1)])), ((ad1 0), .inl (cA 0, (Ld_row s1).1, .inl (Ld_row s1).2))]) F (c_Ts_withRoom l D cA n (ad0 0) (Ld_row s0) (Ld_size s1) o7 k8 h10) kw_313 kn_453 kw_39 kw_312 ⟨by decide, by decide, by decide +kernel⟩ rfl (by decide) (by decide) [1] [0, 2, 3] rfl rfl (by decide) (by decide) (by decide) rfl (Nat.le_of_ble_eq_true rfl) (by omega) (by omega) d_Ld_become_9 (fun ad11 => ?_)
  refine x_nf (ws' := [((ob0 0), .inr (1, [.ref (ad0 0), .int (Ld_size s0)])), ((ob1 0), .inr (1, [.ref (ad1 0), .int (Ld_size s1)])), ((ad1 0), .inl (cA 0, (Ld_row s1).1, .inl (Ld_row s1).2)), ((ad11 0), .inl (cA 0, o7.1, .inl o7.2))]) (st' := [.ref (ad11 0), .ref (ob0 0)]) rfl rfl ?_
  refine x_put (ws' := [((ob0 0), .inr (1, [.ref (ad11 0), .int (Ld_size s0)])), ((ob1 0), .inr (1, [.ref (ad1 0), .int (Ld_size s1)])), ((ad1 0), .inl (cA 0, (Ld_row s1).1, .inl (Ld_row s1).2)), ((ad11 0), .inl (cA 0, o7.1, .inl o7.2))]) F ck_Ld hin_Ld 0 0 rfl (by decide) kw_104 rfl rfl rfl rfl (Nat.le_of_ble_eq_true rfl) rfl d_Ld_become_12 ?_
  refine x_aload_n F d_Ld_become_15 1 rfl rfl ?_
  refine x_get F ck_Ld hin_Ld 1 0 rfl (by decide) kw_104 rfl rfl d_Ld_become_16 ?_
  refine x_iconst (v := (0 : Int32)) F d_Ld_become_19 (by decide) ?_
  refine x_aload_n F d_Ld_become_20 0 rfl rfl ?_
  refine x_get F ck_Ld hin_Ld 0 0 rfl (by decide) kw_104 rfl rfl d_Ld_become_21 ?_
  refine x_iconst (v := (0 : Int32)) F d_Ld_become_24 (by decide) ?_
  refine x_aload_n F d_Ld_become_25 1 rfl rfl ?_
  refine x_get F ck_Ld hin_Ld 1 1 rfl (by decide) kw_106 rfl rfl d_Ld_become_26 ?_
  replace hm := xm_cp_some hm
  obtain ⟨a12, e_a12, b_a12, hm⟩ := hm
  refine x_copy (x := (Ld_row s1)) (y := o7) (y' := a12) (ws' := [((ob0 0), .inr (1, [.ref (ad11 0), .int (Ld_size s0)])), ((ob1 0), .inr (1, [.ref (ad1 0), .int (Ld_size s1)])), ((ad1 0), .inl (cA 0, (Ld_row s1).1, .inl (Ld_row s1).2)), ((ad11 0), .inl (cA 0, a12.1, .inl a12.2))]) F kt_462_12 kt_332_4 kt_331_5 kw_50 2 3 rfl rfl b_a12 e_a12 rfl (by decide) (Nat.le_of_ble_eq_true rfl) d_Ld_become_29 ?_
  refine x_aload_n F d_Ld_become_32 0 rfl rfl ?_
  refine x_aload_n F d_Ld_become_33 1 rfl rfl ?_
  refine x_get F ck_Ld hin_Ld 1 1 rfl (by decide) kw_106 rfl rfl d_Ld_become_34 ?_
  refine x_put (ws' := [((ob0 0), .inr (1, [.ref (ad11 0), .int (Ld_size s1)])), ((ob1 0), .inr (1, [.ref (ad1 0), .int (Ld_size s1)])), ((ad1 0), .inl (cA 0, (Ld_row s1).1, .inl (Ld_row s1).2)), ((ad11 0), .inl (cA 0, a12.1, .inl a12.2))]) F ck_Ld hin_Ld 0 1 rfl (by decide) kw_106 rfl rfl rfl rfl (Nat.le_of_ble_eq_true rfl) rfl d_Ld_become_37 ?_
  replace hm := xm_p_some hm
  obtain ⟨eo, c_o, d_o⟩ := hm
  subst eo
  refine x_sub [0, 3, 1, 2] (by decide) ?_ (xe_v E ad11 (by omega) (by omega)  d_Ld_become_40)
  rfl

noncomputable def m_Pr_init (n : Nat)   : MO (S_Pr) := (xm_na (16 : Int32) (fun a7 => (xm_na (16 : Int32) (fun a10 => (xm_p (a7, a10, (0 : Int32)))))))
set_option maxHeartbeats 4000000 in
set_option maxRecDepth 100000 in
theorem c_Pr_init (l : Launch) (D : va_G) (cA : Nat → ClassId) (n : Nat) (q0 : Nat)  (out : S_Pr) (k : KC) (hm : m_Pr_init n   = some (out, k)) : XM l D cA y_Pr_init b_Pr_init 1 none 1 24 [.ref q0] (([(q0, .inr (4, [.null, .null, .int (0 : Int32)]))])) k (fun _ => none) (fun ad => (w_Pr cA (xa [q0]) ad  out)) := by
  refine x_met (cc := b_Pr_init) (nL := 1) (ret := none) R_Pr (by decide) (Nat.le_of_ble_eq_true rfl) rfl (fun X F I E => ?_)
  unfold m_Pr_init at hm
  refine x_nf2 (ws' := [(q0, .inr (4, [.null, .null, .int (0 : Int32)]))]) (lv' := [(0, .ref q0)]) rfl rfl ?_
  refine x_aload_n F d_Pr_init_0 0 rfl rfl ?_
  refine x_objInit F kt_212_13 kt_57_7 kt_58_8 (by decide) (Nat.le_of_ble_eq_true rfl) d_Pr_init_1 ?_
  refine x_aload_n F d_Pr_init_4 0 rfl rfl ?_
  refine x_bipush (v := (16 : Int32)) F d_Pr_init_5 (by decide) ?_
  replace hm := xm_na_some hm
  obtain ⟨a7, k9, e_a7, n_a7, b_a7, hm, c_a7, d_a7⟩ := hm
  refine x_newa (x := a7) F kw_97 e_a7 n_a7 b_a7 (by omega) (by omega) d_Pr_init_7 (fun q_8 => ?_)
  refine x_nf (ws' := [(q0, .inr (4, [.null, .null, .int (0 : Int32)])), (q_8, .inl (cA 0, a7.1, .inl a7.2))]) (st' := [.ref q_8, .ref q0]) rfl rfl ?_
  refine x_put (ws' := [(q0, .inr (4, [.ref q_8, .null, .int (0 : Int32)])), (q_8, .inl (cA 0, a7.1, .inl a7.2))]) F ck_Pr hin_Pr 0 0 rfl (by decide) kw_213 rfl rfl rfl rfl (Nat.le_of_ble_eq_true rfl) rfl d_Pr_init_9 ?_
  refine x_aload_n F d_Pr_init_12 0 rfl rfl ?_
  refine x_bipush (v := (16 : Int32)) F d_Pr_init_13 (by decide) ?_
  replace hm := xm_na_some hm
  obtain ⟨a10, k12, e_a10, n_a10, b_a10, hm, c_a10, d_a10⟩ := hm
  refine x_newa (x := a10) F kw_97 e_a10 n_a10 b_a10 (by omega) (by omega) d_Pr_init_15 (fun q_11 => ?_)
  refine x_nf (ws' := [(q0, .inr (4, [.ref q_8, .null, .int (0 : Int32)])), (q_8, .inl (cA 0, a7.1, .inl a7.2)), (q_11, .inl (cA 0, a10.1, .inl a10.2))]) (st' := [.ref q_11, .ref q0]) rfl rfl ?_
  refine x_put (ws' := [(q0, .inr (4, [.ref q_8, .ref q_11, .int (0 : Int32)])), (q_8, .inl (cA 0, a7.1, .inl a7.2)), (q_11, .inl (cA 0, a10.1, .inl a10.2))]) F ck_Pr hin_Pr 0 1 rfl (by decide) kw_216 rfl rfl rfl rfl (Nat.le_of_ble_eq_true rfl) rfl d_Pr_init_17 ?_
  refine x_aload_n F d_Pr_init_20 0 rfl rfl ?_
  refine x_iconst (v := (0 : Int32)) F d_Pr_init_21 (by decide) ?_
  refine x_put (ws' := [(q0, .inr (4, [.ref q_8, .ref q_11, .int (0 : Int32)])), (q_8, .inl (cA 0, a7.1, .inl a7.2)), (q_11, .inl (cA 0, a10.1, .inl a10.2))]) F ck_Pr hin_Pr 0 2 rfl (by decide) kw_219 rfl rfl rfl rfl (Nat.le_of_ble_eq_true rfl) rfl d_Pr_init_22 ?_
  replace hm := xm_p_some hm
  obtain ⟨eo, c_o, d_o⟩ := hm
  subst eo
  refine x_sub [0, 1, 2] (by decide) ?_ (xe_v E (xa [q_8, q_11]) (by omega) (by omega)  d_Pr_init_25)
  rfl

noncomputable def m_Pr_append (n : Nat) (s0 : S_Pr) (p0 : Int32) (p1 : Int32) : MO (S_Pr) := (xm_b (m_Ts_withRoom n (Pr_lefts s0) ((Pr_size s0) + (1 : Int32))) (fun o13 => (xm_b (m_Ts_withRoom n (Pr_rights s0) ((Pr_size s0) + (1 : Int32))) (fun o18 => (xm_wr o13 (Pr_size s0) p0 (fun a23 => (xm_wr o18 (Pr_size s0) p1 (fun a24 => (xm_p (a23, a24, ((Pr_size s0) + (1 : Int32))))))))))))
set_option maxHeartbeats 4000000 in
set_option maxRecDepth 100000 in
theorem c_Pr_append (l : Launch) (D : va_G) (cA : Nat → ClassId) (n : Nat) (ob0 ad0 : Nat → Nat) (s0 : S_Pr) (p0 : Int32) (p1 : Int32) (out : S_Pr) (k : KC) (hm : m_Pr_append n s0 p0 p1 = some (out, k)) : XM l D cA y_Pr_append b_Pr_append 3 none 3 107 [.ref (ob0 0), .int p0, .int p1] ((w_Pr cA ob0 ad0  s0)) k (fun _ => none) (fun ad => (w_Pr cA ob0 ad  out)) := by
  refine x_met (cc := b_Pr_append) (nL := 3) (ret := none) R_Pr (by decide) (Nat.le_of_ble_eq_true rfl) rfl (fun X F I E => ?_)
  unfold m_Pr_append at hm
  refine x_nf2 (ws' := [((ob0 0), .inr (4, [.ref (ad0 0), .ref (ad0 1), .int (Pr_size s0)])), ((ad0 0), .inl (cA 0, (Pr_lefts s0).1, .inl (Pr_lefts s0).2)), ((ad0 1), .inl (cA 0, (Pr_rights s0).1, .inl (Pr_rights s0).2))]) (lv' := [(0, .ref (ob0 0)), (1, .int p0), (2, .int p1)]) rfl rfl ?_
  refine x_aload_n F d_Pr_append_0 0 rfl rfl ?_
  refine x_aload_n F d_Pr_append_1 0 rfl rfl ?_
  refine x_get F ck_Pr hin_Pr 0 0 rfl (by decide) kw_213 rfl rfl d_Pr_append_2 ?_
  refine x_aload_n F d_Pr_append_5 0 rfl rfl ?_
  refine x_get F ck_Pr hin_Pr 0 2 rfl (by decide) kw_219 rfl rfl d_Pr_append_6 ?_
  refine x_iconst (v := (1 : Int32)) F d_Pr_append_9 (by decide) ?_
  refine x_iadd F d_Pr_append_10 ?_
  replace hm := xm_b_some hm
  obtain ⟨o13, k14, k15, h16, hm, c_o13, d_o13⟩ := hm
  refine x_callSN (n := 2) (host := "TreeStore") (wr := [((ob0 0), .inr (4, [.ref (ad0 0), .ref (ad0 1), .int (Pr_size s0)])), ((ad0 1), .inl (cA 0, (Pr_rights s0).1, .inl (Pr_rights s0).2))]) F (c_Ts_withRoom l D cA n (ad0 0) (Pr_lefts s0) ((Pr_size s0) + (1 : Int32)) o13 k14 h16) kw_313 kn_425 kw_39 kw_312 ⟨by decide, by decide, by decide +kernel⟩ rfl (by decide) (by decide) [1] [0, 2] rfl rfl (by decide) (by decide) (by decide) rfl (Nat.le_of_ble_eq_true rfl) (by omega) (by omega) d_Pr_append_11 (fun ad17 => ?_)
  refine x_nf (ws' := [((ob0 0), .inr (4, [.ref (ad0 0), .ref (ad0 1), .int (Pr_size s0)])), ((ad0 1), .inl (cA 0, (Pr_rights s0).1, .inl (Pr_rights s0).2)), ((ad17 0), .inl (cA 0, o13.1, .inl o13.2))]) (st' := [.ref (ad17 0), .ref (ob0 0)]) rfl rfl ?_
  refine x_put (ws' := [((ob0 0), .inr (4, [.ref (ad17 0), .ref (ad0 1), .int (Pr_size s0)])), ((ad0 1), .inl (cA 0, (Pr_rights s0).1, .inl (Pr_rights s0).2)), ((ad17 0), .inl (cA 0, o13.1, .inl o13.2))]) F ck_Pr hin_Pr 0 0 rfl (by decide) kw_213 rfl rfl rfl rfl (Nat.le_of_ble_eq_true rfl) rfl d_Pr_append_14 ?_
  refine x_aload_n F d_Pr_append_17 0 rfl rfl ?_
  refine x_aload_n F d_Pr_append_18 0 rfl rfl ?_
  refine x_get F ck_Pr hin_Pr 0 1 rfl (by decide) kw_216 rfl rfl d_Pr_append_19 ?_
  refine x_aload_n F d_Pr_append_22 0 rfl rfl ?_
  refine x_get F ck_Pr hin_Pr 0 2 rfl (by decide) kw_219 rfl rfl d_Pr_append_23 ?_
  refine x_iconst (v := (1 : Int32)) F d_Pr_append_26 (by decide) ?_
  refine x_iadd F d_Pr_append_27 ?_
  replace hm := xm_b_some hm
  obtain ⟨o18, k19, k20, h21, hm, c_o18, d_o18⟩ := hm
  refine x_callSN (n := 2) (host := "TreeStore") (wr := [((ob0 0), .inr (4, [.ref (ad17 0), .ref (ad0 1), .int (Pr_size s0)])), ((ad17 0), .inl (cA 0, o13.1, .inl o13.2))]) F (c_Ts_withRoom l D cA n (ad0 1) (Pr_rights s0) ((Pr_size s0) + (1 : Int32)) o18 k19 h21) kw_313 kn_425 kw_39 kw_312 ⟨by decide, by decide, by decide +kernel⟩ rfl (by decide) (by decide) [1] [0, 2] rfl rfl (by decide) (by decide) (by decide) rfl (Nat.le_of_ble_eq_true rfl) (by omega) (by omega) d_Pr_append_28 (fun ad22 => ?_)
  refine x_nf (ws' := [((ob0 0), .inr (4, [.ref (ad17 0), .ref (ad0 1), .int (Pr_size s0)])), ((ad17 0), .inl (cA 0, o13.1, .inl o13.2)), ((ad22 0), .inl (cA 0, o18.1, .inl o18.2))]) (st' := [.ref (ad22 0), .ref (ob0 0)]) rfl rfl ?_
  refine x_put (ws' := [((ob0 0), .inr (4, [.ref (ad17 0), .ref (ad22 0), .int (Pr_size s0)])), ((ad17 0), .inl (cA 0, o13.1, .inl o13.2)), ((ad22 0), .inl (cA 0, o18.1, .inl o18.2))]) F ck_Pr hin_Pr 0 1 rfl (by decide) kw_216 rfl rfl rfl rfl (Nat.le_of_ble_eq_true rfl) rfl d_Pr_append_31 ?_
  refine x_aload_n F d_Pr_append_34 0 rfl rfl ?_
  refine x_get F ck_Pr hin_Pr 0 0 rfl (by decide) kw_213 rfl rfl d_Pr_append_35 ?_
  refine x_aload_n F d_Pr_append_38 0 rfl rfl ?_
  refine x_get F ck_Pr hin_Pr 0 2 rfl (by decide) kw_219 rfl rfl d_Pr_append_39 ?_
  refine x_iload_n F d_Pr_append_42 1 rfl rfl ?_
  replace hm := xm_wr_some hm
  obtain ⟨a23, e_a23, b_a23, hm⟩ := hm
  refine x_iast (x := o13) (x' := a23) (ws' := [((ob0 0), .inr (4, [.ref (ad17 0), .ref (ad22 0), .int (Pr_size s0)])), ((ad17 0), .inl (cA 0, a23.1, .inl a23.2)), ((ad22 0), .inl (cA 0, o18.1, .inl o18.2))]) F 1 rfl e_a23 b_a23 rfl d_Pr_append_43 ?_
  refine x_aload_n F d_Pr_append_44 0 rfl rfl ?_
  refine x_get F ck_Pr hin_Pr 0 1 rfl (by decide) kw_216 rfl rfl d_Pr_append_45 ?_
  refine x_aload_n F d_Pr_append_48 0 rfl rfl ?_
  refine x_get F ck_Pr hin_Pr 0 2 rfl (by decide) kw_219 rfl rfl d_Pr_append_49 ?_
  refine x_iload_n F d_Pr_append_52 2 rfl rfl ?_
  replace hm := xm_wr_some hm
  obtain ⟨a24, e_a24, b_a24, hm⟩ := hm
  refine x_iast (x := o18) (x' := a24) (ws' := [((ob0 0), .inr (4, [.ref (ad17 0), .ref (ad22 0), .int (Pr_size s0)])), ((ad17 0), .inl (cA 0, a23.1, .inl a23.2)), ((ad22 0), .inl (cA 0, a24.1, .inl a24.2))]) F 2 rfl e_a24 b_a24 rfl d_Pr_append_53 ?_
  refine x_aload_n F d_Pr_append_54 0 rfl rfl ?_
  refine x_dup F d_Pr_append_55 rfl ?_
  refine x_get F ck_Pr hin_Pr 0 2 rfl (by decide) kw_219 rfl rfl d_Pr_append_56 ?_
  refine x_iconst (v := (1 : Int32)) F d_Pr_append_59 (by decide) ?_
  refine x_iadd F d_Pr_append_60 ?_
  refine x_put (ws' := [((ob0 0), .inr (4, [.ref (ad17 0), .ref (ad22 0), .int ((Pr_size s0) + (1 : Int32))])), ((ad17 0), .inl (cA 0, a23.1, .inl a23.2)), ((ad22 0), .inl (cA 0, a24.1, .inl a24.2))]) F ck_Pr hin_Pr 0 2 rfl (by decide) kw_219 rfl rfl rfl rfl (Nat.le_of_ble_eq_true rfl) rfl d_Pr_append_61 ?_
  replace hm := xm_p_some hm
  obtain ⟨eo, c_o, d_o⟩ := hm
  subst eo
  refine x_sub [0, 1, 2] (by decide) ?_ (xe_v E (xa [(ad17 0), (ad22 0)]) (by omega) (by omega)  d_Pr_append_64)
  rfl

noncomputable def m_Pr_startWith (n : Nat) (s0 : S_Pr) (p0 : Int32) (p1 : Int32) : MO (S_Pr) := (xm_b (m_Pr_append n ((Pr_lefts s0), (Pr_rights s0), (0 : Int32)) p0 p1) (fun o6 => (xm_p o6)))
set_option maxHeartbeats 4000000 in
set_option maxRecDepth 100000 in
theorem c_Pr_startWith (l : Launch) (D : va_G) (cA : Nat → ClassId) (n : Nat) (ob0 ad0 : Nat → Nat) (s0 : S_Pr) (p0 : Int32) (p1 : Int32) (out : S_Pr) (k : KC) (hm : m_Pr_startWith n s0 p0 p1 = some (out, k)) : XM l D cA y_Pr_startWith b_Pr_startWith 3 none 4 129 [.ref (ob0 0), .int p0, .int p1] ((w_Pr cA ob0 ad0  s0)) k (fun _ => none) (fun ad => (w_Pr cA ob0 ad  out)) := by
  refine x_met (cc := b_Pr_startWith) (nL := 3) (ret := none) R_Pr (by decide) (Nat.le_of_ble_eq_true rfl) rfl (fun X F I E => ?_)
  unfold m_Pr_startWith at hm
  refine x_nf2 (ws' := [((ob0 0), .inr (4, [.ref (ad0 0), .ref (ad0 1), .int (Pr_size s0)])), ((ad0 0), .inl (cA 0, (Pr_lefts s0).1, .inl (Pr_lefts s0).2)), ((ad0 1), .inl (cA 0, (Pr_rights s0).1, .inl (Pr_rights s0).2))]) (lv' := [(0, .ref (ob0 0)), (1, .int p0), (2, .int p1)]) rfl rfl ?_
  refine x_aload_n F d_Pr_startWith_0 0 rfl rfl ?_
  refine x_iconst (v := (0 : Int32)) F d_Pr_startWith_1 (by decide) ?_
  refine x_put (ws' := [((ob0 0), .inr (4, [.ref (ad0 0), .ref (ad0 1), .int (0 : Int32)])), ((ad0 0), .inl (cA 0, (Pr_lefts s0).1, .inl (Pr_lefts s0).2)), ((ad0 1), .inl (cA 0, (Pr_rights s0).1, .inl (Pr_rights s0).2))]) F ck_Pr hin_Pr 0 2 rfl (by decide) kw_219 rfl rfl rfl rfl (Nat.le_of_ble_eq_true rfl) rfl d_Pr_startWith_2 ?_
  refine x_aload_n F d_Pr_startWith_5 0 rfl rfl ?_
  refine x_iload_n F d_Pr_startWith_6 1 rfl rfl ?_
  refine x_iload_n F d_Pr_startWith_7 2 rfl rfl ?_
  replace hm := xm_b_some hm
  obtain ⟨o6, k7, k8, h9, hm, c_o6, d_o6⟩ := hm
  refine x_callV (n := 2) (C := R_Pr) (wr := []) F (c_Pr_append l D cA n ob0 ad0 ((Pr_lefts s0), (Pr_rights s0), (0 : Int32)) p0 p1 o6 k7 h9) kw_424 kw_421 kw_422 kw_423 kw_45 ⟨rfl, by decide, by decide, by decide +kernel⟩ rfl (by decide) (by decide) (ci := 4) rfl rfl 0 rfl [0, 1, 2] [] rfl rfl (by decide) (by decide) (by decide) rfl (Nat.le_of_ble_eq_true rfl) (by omega) (by omega) d_Pr_startWith_8 (fun ad10 => ?_)
  refine x_nf (ws' := [((ob0 0), .inr (4, [.ref (ad10 0), .ref (ad10 1), .int (Pr_size o6)])), ((ad10 0), .inl (cA 0, (Pr_lefts o6).1, .inl (Pr_lefts o6).2)), ((ad10 1), .inl (cA 0, (Pr_rights o6).1, .inl (Pr_rights o6).2))]) (st' := []) rfl rfl ?_
  replace hm := xm_p_some hm
  obtain ⟨eo, c_o, d_o⟩ := hm
  subst eo
  refine x_sub [0, 1, 2] (by decide) ?_ (xe_v E ad10 (by omega) (by omega)  d_Pr_startWith_11)
  rfl

noncomputable def m_Pu_init (n : Nat)   : MO (S_Pu) := (xm_na (16 : Int32) (fun a7 => (xm_na (16 : Int32) (fun a10 => (xm_p (a7, a10, (0 : Int32)))))))
set_option maxHeartbeats 4000000 in
set_option maxRecDepth 100000 in
theorem c_Pu_init (l : Launch) (D : va_G) (cA : Nat → ClassId) (n : Nat) (q0 : Nat)  (out : S_Pu) (k : KC) (hm : m_Pu_init n   = some (out, k)) : XM l D cA y_Pu_init b_Pu_init 1 none 1 24 [.ref q0] (([(q0, .inr (5, [.null, .null, .int (0 : Int32)]))])) k (fun _ => none) (fun ad => (w_Pu cA (xa [q0]) ad  out)) := by
  refine x_met (cc := b_Pu_init) (nL := 1) (ret := none) R_Pu (by decide) (Nat.le_of_ble_eq_true rfl) rfl (fun X F I E => ?_)
  unfold m_Pu_init at hm
  refine x_nf2 (ws' := [(q0, .inr (5, [.null, .null, .int (0 : Int32)]))]) (lv' := [(0, .ref q0)]) rfl rfl ?_
  refine x_aload_n F d_Pu_init_0 0 rfl rfl ?_
  refine x_objInit F kt_185_14 kt_57_7 kt_58_8 (by decide) (Nat.le_of_ble_eq_true rfl) d_Pu_init_1 ?_
  refine x_aload_n F d_Pu_init_4 0 rfl rfl ?_
  refine x_bipush (v := (16 : Int32)) F d_Pu_init_5 (by decide) ?_
  replace hm := xm_na_some hm
  obtain ⟨a7, k9, e_a7, n_a7, b_a7, hm, c_a7, d_a7⟩ := hm
  refine x_newa (x := a7) F kw_97 e_a7 n_a7 b_a7 (by omega) (by omega) d_Pu_init_7 (fun q_8 => ?_)
  refine x_nf (ws' := [(q0, .inr (5, [.null, .null, .int (0 : Int32)])), (q_8, .inl (cA 0, a7.1, .inl a7.2))]) (st' := [.ref q_8, .ref q0]) rfl rfl ?_
  refine x_put (ws' := [(q0, .inr (5, [.ref q_8, .null, .int (0 : Int32)])), (q_8, .inl (cA 0, a7.1, .inl a7.2))]) F ck_Pu hin_Pu 0 0 rfl (by decide) kw_186 rfl rfl rfl rfl (Nat.le_of_ble_eq_true rfl) rfl d_Pu_init_9 ?_
  refine x_aload_n F d_Pu_init_12 0 rfl rfl ?_
  refine x_bipush (v := (16 : Int32)) F d_Pu_init_13 (by decide) ?_
  replace hm := xm_na_some hm
  obtain ⟨a10, k12, e_a10, n_a10, b_a10, hm, c_a10, d_a10⟩ := hm
  refine x_newa (x := a10) F kw_97 e_a10 n_a10 b_a10 (by omega) (by omega) d_Pu_init_15 (fun q_11 => ?_)
  refine x_nf (ws' := [(q0, .inr (5, [.ref q_8, .null, .int (0 : Int32)])), (q_8, .inl (cA 0, a7.1, .inl a7.2)), (q_11, .inl (cA 0, a10.1, .inl a10.2))]) (st' := [.ref q_11, .ref q0]) rfl rfl ?_
  refine x_put (ws' := [(q0, .inr (5, [.ref q_8, .ref q_11, .int (0 : Int32)])), (q_8, .inl (cA 0, a7.1, .inl a7.2)), (q_11, .inl (cA 0, a10.1, .inl a10.2))]) F ck_Pu hin_Pu 0 1 rfl (by decide) kw_188 rfl rfl rfl rfl (Nat.le_of_ble_eq_true rfl) rfl d_Pu_init_17 ?_
  refine x_aload_n F d_Pu_init_20 0 rfl rfl ?_
  refine x_iconst (v := (0 : Int32)) F d_Pu_init_21 (by decide) ?_
  refine x_put (ws' := [(q0, .inr (5, [.ref q_8, .ref q_11, .int (0 : Int32)])), (q_8, .inl (cA 0, a7.1, .inl a7.2)), (q_11, .inl (cA 0, a10.1, .inl a10.2))]) F ck_Pu hin_Pu 0 2 rfl (by decide) kw_190 rfl rfl rfl rfl (Nat.le_of_ble_eq_true rfl) rfl d_Pu_init_22 ?_
  replace hm := xm_p_some hm
  obtain ⟨eo, c_o, d_o⟩ := hm
  subst eo
  refine x_sub [0, 1, 2] (by decide) ?_ (xe_v E (xa [q_8, q_11]) (by omega) (by omega)  d_Pu_init_25)
  rfl

noncomputable def L_Pu_holds_2 (y1 : Int32) (s0 : S_Pu) (n i : Nat) : Int32 → MO ((Int32) ⊕ (Int32)) := Nat.rec (motive := fun _ => Int32 → MO ((Int32) ⊕ (Int32))) (fun _ => none) (fun _ ih x2 => (if (Pu_size s0) ≤ x2 then (xm_p (Sum.inl x2)) else (xm_rd (Pu_features s0) x2 (fun v5 => (if v5 = y1 then (xm_p (Sum.inr (1 : Int32))) else (ih (x2 + 1))))))) i
theorem L_Pu_holds_2_s (y1 : Int32) (s0 : S_Pu) (n i : Nat) (x2 : Int32) : L_Pu_holds_2 y1 s0 n (i + 1) x2 = (if (Pu_size s0) ≤ x2 then (xm_p (Sum.inl x2)) else (xm_rd (Pu_features s0) x2 (fun v5 => (if v5 = y1 then (xm_p (Sum.inr (1 : Int32))) else (L_Pu_holds_2 y1 s0 n i (x2 + 1)))))) := rfl
noncomputable def m_Pu_holds (n : Nat) (s0 : S_Pu) (p0 : Int32) : MO (Int32) := (xm_b (L_Pu_holds_2 p0 s0 n n (0 : Int32)) (fun o7 => Sum.elim (fun e12 => (xm_p (0 : Int32))) (fun z => xm_p z) o7))
set_option maxHeartbeats 4000000 in
set_option maxRecDepth 100000 in
theorem wl_Pu_holds_2 {X : XT} {l : Launch} {D : va_G} {cA : Nat → ClassId} {mc ms : Nat} (F : XF X l D cA b_Pu_holds 3 (some FieldType.boolean) R_Pu 0 0 mc ms) (n : Nat) (ob0 : Nat → Nat) (y1 : Int32) (s0 : S_Pu)  (ad0 : Nat → Nat) : ∀ (i : Nat) (x2 : Int32)  (nc ns : Nat) (out : (Int32) ⊕ (Int32)) (k : KC), L_Pu_holds_2 y1 s0 n i x2 = some (out, k) → nc + k.1 ≤ mc → ns + k.2 ≤ ms → (∀ e : Int32, out = Sum.inl e → ∀ ad : Nat → Nat, XW X 3 ((w_Pu cA ob0 ad0  s0)) (nc + k.1) (ns + k.2) 28 [(0, .ref (ob0 0)), (1, .int y1), (2, .int e)] []) → (∀ r : Int32, out = Sum.inr r → ∀ (ad : Nat → Nat) (pc : Nat) (lv : List (Nat × Value)), narrow .boolean (.int r) = .int r → decode b_Pu_holds pc = .ok (.ireturn, 1) → XW X 3 ((w_Pu cA ob0 ad0  s0)) (nc + k.1) (ns + k.2) pc lv [.int r]) → XW X 3 ((w_Pu cA ob0 ad0  s0)) nc ns 2 [(0, .ref (ob0 0)), (1, .int y1), (2, .int x2)] [] := by
  intro i
  induction i with
  | zero =>
    intro x2  nc ns out k hm
    replace hm : (none : MO ((Int32) ⊕ (Int32))) = some (out, k) := hm
    cases hm
  | succ i ih =>
    intro x2  nc ns out k hm hc hs KX KR
    rw [L_Pu_holds_2_s] at hm
    refine x_ws (ws' := [((ob0 0), .inr (5, [.ref (ad0 0), .ref (ad0 1), .int (Pu_size s0)])), ((ad0 0), .inl (cA 0, (Pu_features s0).1, .inl (Pu_features s0).2)), ((ad0 1), .inl (cA 0, (Pu_parts s0).1, .inl (Pu_parts s0).2))]) rfl ?_
    refine x_iload_n F d_Pu_holds_2 2 rfl rfl ?_
    refine x_aload_n F d_Pu_holds_3 0 rfl rfl ?_
    refine x_get F ck_Pu hin_Pu 0 2 rfl (by decide) kw_190 rfl rfl d_Pu_holds_4 ?_
    refine x_icmp_ge F 28 d_Pu_holds_7 (by decide) (fun c4 => ?_) (fun c4 => ?_)
    · replace hm := xm_t hm c4
      replace hm := xm_p_some hm
      obtain ⟨eo, c_o, d_o⟩ := hm
      refine x_sub [0, 1, 2] (by decide) ?_ (x_lv [0, 1, 2] ?_ (x_cs (by omega) (by omega) (KX _ eo (fun _ => 0))))
      · rfl
      · rfl
    · replace hm := xm_f hm c4
      refine x_aload_n F d_Pu_holds_10 0 rfl rfl ?_
      refine x_get F ck_Pu hin_Pu 0 0 rfl (by decide) kw_186 rfl rfl d_Pu_holds_11 ?_
      refine x_iload_n F d_Pu_holds_14 2 rfl rfl ?_
      replace hm := xm_rd_some hm
      obtain ⟨v5, e_v5, b_v5, hm⟩ := hm
      refine x_iald (x := (Pu_features s0)) F 1 rfl e_v5 b_v5 d_Pu_holds_15 ?_
      refine x_iload_n F d_Pu_holds_16 1 rfl rfl ?_
      refine x_icmp_ne F 22 d_Pu_holds_17 (by decide) (fun c6 => ?_) (fun c6 => ?_)
      · replace hm := xm_f hm c6
        refine x_iinc (v := (x2 + 1)) (lv' := [(2, .int (x2 + 1)), (0, .ref (ob0 0)), (1, .int y1)]) F d_Pu_holds_22 2 rfl rfl (by decide) rfl ?_
        refine x_goto F 2 d_Pu_holds_25 (by decide) ?_
        refine x_sub [0, 1, 2] (by decide) ?_ (x_lv [1, 2, 0] ?_ (ih (x2 + 1)  _ _ out k hm (by omega) (by omega) (fun e he ad => x_cs (by omega) (by omega) (KX e he ad)) (fun r hr ad pc lv hn hd => x_cs (by omega) (by omega) (KR r hr ad pc lv hn hd))))
        · rfl
        · rfl
      · replace hm := xm_t hm c6
        refine x_iconst (v := (1 : Int32)) F d_Pu_holds_20 (by decide) ?_
        replace hm := xm_p_some hm
        obtain ⟨eo, c_o, d_o⟩ := hm
        refine x_sub [0, 1, 2] (by decide) ?_ (x_cs (by omega) (by omega) (KR _ eo (fun _ => 0) _ _ xz_1 d_Pu_holds_21))
        rfl
set_option maxHeartbeats 4000000 in
set_option maxRecDepth 100000 in
theorem c_Pu_holds (l : Launch) (D : va_G) (cA : Nat → ClassId) (n : Nat) (ob0 ad0 : Nat → Nat) (s0 : S_Pu) (p0 : Int32) (out : Int32) (k : KC) (hm : m_Pu_holds n s0 p0 = some (out, k)) : XM l D cA y_Pu_holds b_Pu_holds 3 (some FieldType.boolean) 0 0 [.ref (ob0 0), .int p0] ((w_Pu cA ob0 ad0  s0)) k (fun _ => some (.int out)) (fun ad => (w_Pu cA ob0 ad0  s0)) := by
  refine x_met (cc := b_Pu_holds) (nL := 3) (ret := (some FieldType.boolean)) R_Pu (by decide) (Nat.le_of_ble_eq_true rfl) rfl (fun X F I E => ?_)
  unfold m_Pu_holds at hm
  refine x_nf2 (ws' := [((ob0 0), .inr (5, [.ref (ad0 0), .ref (ad0 1), .int (Pu_size s0)])), ((ad0 0), .inl (cA 0, (Pu_features s0).1, .inl (Pu_features s0).2)), ((ad0 1), .inl (cA 0, (Pu_parts s0).1, .inl (Pu_parts s0).2))]) (lv' := [(0, .ref (ob0 0)), (1, .int p0)]) rfl rfl ?_
  refine x_iconst (v := (0 : Int32)) F d_Pu_holds_0 (by decide) ?_
  refine x_istore_n (lv' := [(2, .int (0 : Int32)), (0, .ref (ob0 0)), (1, .int p0)]) F d_Pu_holds_1 rfl (by decide) rfl ?_
  replace hm := xm_b_some hm
  obtain ⟨o7, k8, k9, h10, hm, c_o7, d_o7⟩ := hm
  refine x_sub [0, 1, 2] (by decide) ?_ (x_lv [1, 2, 0] ?_ (wl_Pu_holds_2 F n ob0 p0 s0 ad0 n (0 : Int32)  _ _ o7 k8 h10 (by omega) (by omega) (fun e12 h14 ad11 => ?_) (fun r13 h14 ad11 pc lv hn hd => ?_)))
  · rfl
  · rfl
  · subst h14
    replace hm := xm_inl hm
    refine x_nf2 (ws' := [((ob0 0), .inr (5, [.ref (ad0 0), .ref (ad0 1), .int (Pu_size s0)])), ((ad0 0), .inl (cA 0, (Pu_features s0).1, .inl (Pu_features s0).2)), ((ad0 1), .inl (cA 0, (Pu_parts s0).1, .inl (Pu_parts s0).2))]) (lv' := [(0, .ref (ob0 0)), (1, .int p0), (2, .int e12)]) rfl rfl ?_
    refine x_iconst (v := (0 : Int32)) F d_Pu_holds_28 (by decide) ?_
    replace hm := xm_p_some hm
    obtain ⟨eo, c_o, d_o⟩ := hm
    subst eo
    refine x_sub [0, 1, 2] (by decide) ?_ (xe_i E (fun _ => 0) (by omega) (by omega) rfl xz_0 d_Pu_holds_29)
    rfl
  · subst h14
    replace hm := xm_inr hm
    replace hm := xm_p_some hm
    obtain ⟨eo, c_o, d_o⟩ := hm
    subst eo
    exact xe_i E (fun _ => 0) (by omega) (by omega) rfl hn hd

noncomputable def m_Ts_rank (n : Nat)  (p0 : Int32) : MO (Int32) := (if p0 ≤ 0 then (xm_p ((9999 : Int32) - p0)) else (xm_p p0))
set_option maxHeartbeats 4000000 in
set_option maxRecDepth 100000 in
theorem c_Ts_rank (l : Launch) (D : va_G) (cA : Nat → ClassId) (n : Nat)  (p0 : Int32) (out : Int32) (k : KC) (hm : m_Ts_rank n  p0 = some (out, k)) : XM l D cA y_Ts_rank b_Ts_rank 1 (some FieldType.int) 0 0 [.int p0] ([]) k (fun _ => some (.int out)) (fun ad => []) := by
  refine x_met (cc := b_Ts_rank) (nL := 1) (ret := (some FieldType.int)) R_Ts (by decide) (Nat.le_of_ble_eq_true rfl) rfl (fun X F I E => ?_)
  unfold m_Ts_rank at hm
  refine x_nf2 (ws' := []) (lv' := [(0, .int p0)]) rfl rfl ?_
  refine x_iload_n F d_Ts_rank_0 0 rfl rfl ?_
  refine x_if_le F 8 d_Ts_rank_1 (by decide) (fun c2 => ?_) (fun c2 => ?_)
  · replace hm := xm_t hm c2
    refine x_sipush (v := (9999 : Int32)) F d_Ts_rank_8 (by decide) ?_
    refine x_iload_n F d_Ts_rank_11 0 rfl rfl ?_
    refine x_isub F d_Ts_rank_12 ?_
    replace hm := xm_p_some hm
    obtain ⟨eo, c_o, d_o⟩ := hm
    subst eo
    refine x_sub [] (by decide) ?_ (xe_i E (fun _ => 0) (by omega) (by omega) rfl (xz_i _) d_Ts_rank_13)
    rfl
  · replace hm := xm_f hm c2
    refine x_iload_n F d_Ts_rank_4 0 rfl rfl ?_
    refine x_goto F 13 d_Ts_rank_5 (by decide) ?_
    replace hm := xm_p_some hm
    obtain ⟨eo, c_o, d_o⟩ := hm
    subst eo
    refine x_sub [] (by decide) ?_ (xe_i E (fun _ => 0) (by omega) (by omega) rfl (xz_i _) d_Ts_rank_13)
    rfl

noncomputable def L_Pu_insert_39 (y1 : Int32) (y2 : Int32) (n i : Nat) : Int32 → S_Pu → MO (Int32 × S_Pu) := Nat.rec (motive := fun _ => Int32 → S_Pu → MO (Int32 × S_Pu)) (fun _ _ => none) (fun _ ih x3 s0 => (if x3 ≤ 0 then (xm_p ((x3, s0))) else (xm_rd (Pu_features s0) (x3 - (1 : Int32)) (fun v41 => (xm_b (m_Ts_rank n  v41) (fun o42 => (xm_b (m_Ts_rank n  y1) (fun o47 => (if o42 ≤ o47 then (xm_p ((x3, s0))) else (xm_rd (Pu_features s0) (x3 - (1 : Int32)) (fun v53 => (xm_wr (Pu_features s0) x3 v53 (fun a54 => (xm_rd (Pu_parts s0) (x3 - (1 : Int32)) (fun v55 => (xm_wr (Pu_parts s0) x3 v55 (fun a56 => (ih (x3 + -1) (a54, a56, (Pu_size s0)))))))))))))))))))) i
theorem L_Pu_insert_39_s (y1 : Int32) (y2 : Int32) (n i : Nat) (x3 : Int32) (s0 : S_Pu) : L_Pu_insert_39 y1 y2 n (i + 1) x3 s0 = (if x3 ≤ 0 then (xm_p ((x3, s0))) else (xm_rd (Pu_features s0) (x3 - (1 : Int32)) (fun v41 => (xm_b (m_Ts_rank n  v41) (fun o42 => (xm_b (m_Ts_rank n  y1) (fun o47 => (if o42 ≤ o47 then (xm_p ((x3, s0))) else (xm_rd (Pu_features s0) (x3 - (1 : Int32)) (fun v53 => (xm_wr (Pu_features s0) x3 v53 (fun a54 => (xm_rd (Pu_parts s0) (x3 - (1 : Int32)) (fun v55 => (xm_wr (Pu_parts s0) x3 v55 (fun a56 => (L_Pu_insert_39 y1 y2 n i (x3 + -1) (a54, a56, (Pu_size s0))))))))))))))))))) := rfl
noncomputable def m_Pu_insert (n : Nat) (s0 : S_Pu) (p0 : Int32) (p1 : Int32) : MO (S_Pu) := (xm_b (m_Ts_withRoom n (Pu_features s0) ((Pu_size s0) + (1 : Int32))) (fun o30 => (xm_b (m_Ts_withRoom n (Pu_parts s0) ((Pu_size s0) + (1 : Int32))) (fun o35 => (xm_b (L_Pu_insert_39 p0 p1 n n (Pu_size s0) (o30, o35, (Pu_size s0))) (fun o57 => (xm_wr (Pu_features (o57.2)) (o57.1) p0 (fun a62 => (xm_wr (Pu_parts (o57.2)) (o57.1) p1 (fun a63 => (xm_p (a62, a63, ((Pu_size (o57.2)) + (1 : Int32))))))))))))))
set_option maxHeartbeats 4000000 in
set_option maxRecDepth 100000 in
theorem wl_Pu_insert_39 {X : XT} {l : Launch} {D : va_G} {cA : Nat → ClassId} {mc ms : Nat} (F : XF X l D cA b_Pu_insert 4 none R_Pu 3 107 mc ms) (n : Nat) (ob0 : Nat → Nat) (y1 : Int32) (y2 : Int32)   : ∀ (i : Nat) (x3 : Int32) (s0 : S_Pu) (ad0 : Nat → Nat) (nc ns : Nat) (out : Int32 × S_Pu) (k : KC), L_Pu_insert_39 y1 y2 n i x3 s0 = some (out, k) → nc + k.1 ≤ mc → ns + k.2 ≤ ms → (∀ ad : Nat → Nat, XW X 4 ((w_Pu cA ob0 ad  (out.2))) (nc + k.1) (ns + k.2) 95 [(0, .ref (ob0 0)), (1, .int y1), (2, .int y2), (3, .int (out.1))] []) → XW X 4 ((w_Pu cA ob0 ad0  s0)) nc ns 39 [(0, .ref (ob0 0)), (1, .int y1), (2, .int y2), (3, .int x3)] [] := by
  intro i
  induction i with
  | zero =>
    intro x3 s0 ad0 nc ns out k hm
    replace hm : (none : MO (Int32 × S_Pu)) = some (out, k) := hm
    cases hm
  | succ i ih =>
    intro x3 s0 ad0 nc ns out k hm hc hs KX
    rw [L_Pu_insert_39_s] at hm
    refine x_ws (ws' := [((ob0 0), .inr (5, [.ref (ad0 0), .ref (ad0 1), .int (Pu_size s0)])), ((ad0 0), .inl (cA 0, (Pu_features s0).1, .inl (Pu_features s0).2)), ((ad0 1), .inl (cA 0, (Pu_parts s0).1, .inl (Pu_parts s0).2))]) rfl ?_
    refine x_iload_n F d_Pu_insert_39 3 rfl rfl ?_
    refine x_if_le F 95 d_Pu_insert_40 (by decide) (fun c40 => ?_) (fun c40 => ?_)
    · replace hm := xm_t hm c40
      replace hm := xm_p_some hm
      obtain ⟨eo, c_o, d_o⟩ := hm
      subst eo
      refine x_sub [0, 1, 2] (by decide) ?_ (x_lv [0, 1, 2, 3] ?_ (x_cs (by omega) (by omega) (KX ad0)))
      · rfl
      · rfl
    · replace hm := xm_f hm c40
      refine x_aload_n F d_Pu_insert_43 0 rfl rfl ?_
      refine x_get F ck_Pu hin_Pu 0 0 rfl (by decide) kw_186 rfl rfl d_Pu_insert_44 ?_
      refine x_iload_n F d_Pu_insert_47 3 rfl rfl ?_
      refine x_iconst (v := (1 : Int32)) F d_Pu_insert_48 (by decide) ?_
      refine x_isub F d_Pu_insert_49 ?_
      replace hm := xm_rd_some hm
      obtain ⟨v41, e_v41, b_v41, hm⟩ := hm
      refine x_iald (x := (Pu_features s0)) F 1 rfl e_v41 b_v41 d_Pu_insert_50 ?_
      replace hm := xm_b_some hm
      obtain ⟨o42, k43, k44, h45, hm, c_o42, d_o42⟩ := hm
      refine x_callSN (n := 1) (host := "TreeStore") (wr := [((ob0 0), .inr (5, [.ref (ad0 0), .ref (ad0 1), .int (Pu_size s0)])), ((ad0 0), .inl (cA 0, (Pu_features s0).1, .inl (Pu_features s0).2)), ((ad0 1), .inl (cA 0, (Pu_parts s0).1, .inl (Pu_parts s0).2))]) F (c_Ts_rank l D cA n  v41 o42 k43 h45) kw_378 kn_376 kw_39 kw_377 ⟨by decide, by decide, by decide +kernel⟩ rfl (by decide) (by decide) [] [0, 1, 2] rfl rfl (by decide) (by decide) (by decide) rfl (Nat.le_of_ble_eq_true rfl) (by omega) (by omega) d_Pu_insert_51 (fun ad46 => ?_)
      refine x_nf (ws' := [((ob0 0), .inr (5, [.ref (ad0 0), .ref (ad0 1), .int (Pu_size s0)])), ((ad0 0), .inl (cA 0, (Pu_features s0).1, .inl (Pu_features s0).2)), ((ad0 1), .inl (cA 0, (Pu_parts s0).1, .inl (Pu_parts s0).2))]) (st' := [.int o42]) rfl rfl ?_
      refine x_iload_n F d_Pu_insert_54 1 rfl rfl ?_
      replace hm := xm_b_some hm
      obtain ⟨o47, k48, k49, h50, hm, c_o47, d_o47⟩ := hm
      refine x_callSN (n := 1) (host := "TreeStore") (wr := [((ob0 0), .inr (5, [.ref (ad0 0), .ref (ad0 1), .int (Pu_size s0)])), ((ad0 0), .inl (cA 0, (Pu_features s0).1, .inl (Pu_features s0).2)), ((ad0 1), .inl (cA 0, (Pu_parts s0).1, .inl (Pu_parts s0).2))]) F (c_Ts_rank l D cA n  y1 o47 k48 h50) kw_378 kn_376 kw_39 kw_377 ⟨by decide, by decide, by decide +kernel⟩ rfl (by decide) (by decide) [] [0, 1, 2] rfl rfl (by decide) (by decide) (by decide) rfl (Nat.le_of_ble_eq_true rfl) (by omega) (by omega) d_Pu_insert_55 (fun ad51 => ?_)
      refine x_nf (ws' := [((ob0 0), .inr (5, [.ref (ad0 0), .ref (ad0 1), .int (Pu_size s0)])), ((ad0 0), .inl (cA 0, (Pu_features s0).1, .inl (Pu_features s0).2)), ((ad0 1), .inl (cA 0, (Pu_parts s0).1, .inl (Pu_parts s0).2))]) (st' := [.int o47, .int o42]) rfl rfl ?_
      refine x_icmp_le F 95 d_Pu_insert_58 (by decide) (fun c52 => ?_) (fun c52 => ?_)
      · replace hm := xm_t hm c52
        replace hm := xm_p_some hm
        obtain ⟨eo, c_o, d_o⟩ := hm
        subst eo
        refine x_sub [0, 1, 2] (by decide) ?_ (x_lv [0, 1, 2, 3] ?_ (x_cs (by omega) (by omega) (KX ad0)))
        · rfl
        · rfl
      · replace hm := xm_f hm c52
        refine x_aload_n F d_Pu_insert_61 0 rfl rfl ?_
        refine x_get F ck_Pu hin_Pu 0 0 rfl (by decide) kw_186 rfl rfl d_Pu_insert_62 ?_
        refine x_iload_n F d_Pu_insert_65 3 rfl rfl ?_
        refine x_aload_n F d_Pu_insert_66 0 rfl rfl ?_
        refine x_get F ck_Pu hin_Pu 0 0 rfl (by decide) kw_186 rfl rfl d_Pu_insert_67 ?_
        refine x_iload_n F d_Pu_insert_70 3 rfl rfl ?_
        refine x_iconst (v := (1 : Int32)) F d_Pu_insert_71 (by decide) ?_
        refine x_isub F d_Pu_insert_72 ?_
        replace hm := xm_rd_some hm
        obtain ⟨v53, e_v53, b_v53, hm⟩ := hm
        refine x_iald (x := (Pu_features s0)) F 1 rfl e_v53 b_v53 d_Pu_insert_73 ?_
        replace hm := xm_wr_some hm
        obtain ⟨a54, e_a54, b_a54, hm⟩ := hm
        refine x_iast (x := (Pu_features s0)) (x' := a54) (ws' := [((ob0 0), .inr (5, [.ref (ad0 0), .ref (ad0 1), .int (Pu_size s0)])), ((ad0 0), .inl (cA 0, a54.1, .inl a54.2)), ((ad0 1), .inl (cA 0, (Pu_parts s0).1, .inl (Pu_parts s0).2))]) F 1 rfl e_a54 b_a54 rfl d_Pu_insert_74 ?_
        refine x_aload_n F d_Pu_insert_75 0 rfl rfl ?_
        refine x_get F ck_Pu hin_Pu 0 1 rfl (by decide) kw_188 rfl rfl d_Pu_insert_76 ?_
        refine x_iload_n F d_Pu_insert_79 3 rfl rfl ?_
        refine x_aload_n F d_Pu_insert_80 0 rfl rfl ?_
        refine x_get F ck_Pu hin_Pu 0 1 rfl (by decide) kw_188 rfl rfl d_Pu_insert_81 ?_
        refine x_iload_n F d_Pu_insert_84 3 rfl rfl ?_
        refine x_iconst (v := (1 : Int32)) F d_Pu_insert_85 (by decide) ?_
        refine x_isub F d_Pu_insert_86 ?_
        replace hm := xm_rd_some hm
        obtain ⟨v55, e_v55, b_v55, hm⟩ := hm
        refine x_iald (x := (Pu_parts s0)) F 2 rfl e_v55 b_v55 d_Pu_insert_87 ?_
        replace hm := xm_wr_some hm
        obtain ⟨a56, e_a56, b_a56, hm⟩ := hm
        refine x_iast (x := (Pu_parts s0)) (x' := a56) (ws' := [((ob0 0), .inr (5, [.ref (ad0 0), .ref (ad0 1), .int (Pu_size s0)])), ((ad0 0), .inl (cA 0, a54.1, .inl a54.2)), ((ad0 1), .inl (cA 0, a56.1, .inl a56.2))]) F 2 rfl e_a56 b_a56 rfl d_Pu_insert_88 ?_
        refine x_iinc (v := (x3 + -1)) (lv' := [(3, .int (x3 + -1)), (0, .ref (ob0 0)), (1, .int y1), (2, .int y2)]) F d_Pu_insert_89 3 rfl rfl (by decide) rfl ?_
        refine x_goto F 39 d_Pu_insert_92 (by decide) ?_
        refine x_sub [0, 1, 2] (by decide) ?_ (x_lv [1, 2, 3, 0] ?_ (ih (x3 + -1) (a54, a56, (Pu_size s0)) ad0 _ _ out k49 hm (by omega) (by omega) (fun ad => x_cs (by omega) (by omega) (KX ad))))
        · rfl
        · rfl
set_option maxHeartbeats 4000000 in
set_option maxRecDepth 100000 in
theorem c_Pu_insert (l : Launch) (D : va_G) (cA : Nat → ClassId) (n : Nat) (ob0 ad0 : Nat → Nat) (s0 : S_Pu) (p0 : Int32) (p1 : Int32) (out : S_Pu) (k : KC) (hm : m_Pu_insert n s0 p0 p1 = some (out, k)) : XM l D cA y_Pu_insert b_Pu_insert 4 none 3 107 [.ref (ob0 0), .int p0, .int p1] ((w_Pu cA ob0 ad0  s0)) k (fun _ => none) (fun ad => (w_Pu cA ob0 ad  out)) := by
  refine x_met (cc := b_Pu_insert) (nL := 4) (ret := none) R_Pu (by decide) (Nat.le_of_ble_eq_true rfl) rfl (fun X F I E => ?_)
  unfold m_Pu_insert at hm
  refine x_nf2 (ws' := [((ob0 0), .inr (5, [.ref (ad0 0), .ref (ad0 1), .int (Pu_size s0)])), ((ad0 0), .inl (cA 0, (Pu_features s0).1, .inl (Pu_features s0).2)), ((ad0 1), .inl (cA 0, (Pu_parts s0).1, .inl (Pu_parts s0).2))]) (lv' := [(0, .ref (ob0 0)), (1, .int p0), (2, .int p1)]) rfl rfl ?_
  refine x_aload_n F d_Pu_insert_0 0 rfl rfl ?_
  refine x_aload_n F d_Pu_insert_1 0 rfl rfl ?_
  refine x_get F ck_Pu hin_Pu 0 0 rfl (by decide) kw_186 rfl rfl d_Pu_insert_2 ?_
  refine x_aload_n F d_Pu_insert_5 0 rfl rfl ?_
  refine x_get F ck_Pu hin_Pu 0 2 rfl (by decide) kw_190 rfl rfl d_Pu_insert_6 ?_
  refine x_iconst (v := (1 : Int32)) F d_Pu_insert_9 (by decide) ?_
  refine x_iadd F d_Pu_insert_10 ?_
  replace hm := xm_b_some hm
  obtain ⟨o30, k31, k32, h33, hm, c_o30, d_o30⟩ := hm
  refine x_callSN (n := 2) (host := "TreeStore") (wr := [((ob0 0), .inr (5, [.ref (ad0 0), .ref (ad0 1), .int (Pu_size s0)])), ((ad0 1), .inl (cA 0, (Pu_parts s0).1, .inl (Pu_parts s0).2))]) F (c_Ts_withRoom l D cA n (ad0 0) (Pu_features s0) ((Pu_size s0) + (1 : Int32)) o30 k31 h33) kw_313 kn_375 kw_39 kw_312 ⟨by decide, by decide, by decide +kernel⟩ rfl (by decide) (by decide) [1] [0, 2] rfl rfl (by decide) (by decide) (by decide) rfl (Nat.le_of_ble_eq_true rfl) (by omega) (by omega) d_Pu_insert_11 (fun ad34 => ?_)
  refine x_nf (ws' := [((ob0 0), .inr (5, [.ref (ad0 0), .ref (ad0 1), .int (Pu_size s0)])), ((ad0 1), .inl (cA 0, (Pu_parts s0).1, .inl (Pu_parts s0).2)), ((ad34 0), .inl (cA 0, o30.1, .inl o30.2))]) (st' := [.ref (ad34 0), .ref (ob0 0)]) rfl rfl ?_
  refine x_put (ws' := [((ob0 0), .inr (5, [.ref (ad34 0), .ref (ad0 1), .int (Pu_size s0)])), ((ad0 1), .inl (cA 0, (Pu_parts s0).1, .inl (Pu_parts s0).2)), ((ad34 0), .inl (cA 0, o30.1, .inl o30.2))]) F ck_Pu hin_Pu 0 0 rfl (by decide) kw_186 rfl rfl rfl rfl (Nat.le_of_ble_eq_true rfl) rfl d_Pu_insert_14 ?_
  refine x_aload_n F d_Pu_insert_17 0 rfl rfl ?_
  refine x_aload_n F d_Pu_insert_18 0 rfl rfl ?_
  refine x_get F ck_Pu hin_Pu 0 1 rfl (by decide) kw_188 rfl rfl d_Pu_insert_19 ?_
  refine x_aload_n F d_Pu_insert_22 0 rfl rfl ?_
  refine x_get F ck_Pu hin_Pu 0 2 rfl (by decide) kw_190 rfl rfl d_Pu_insert_23 ?_
  refine x_iconst (v := (1 : Int32)) F d_Pu_insert_26 (by decide) ?_
  refine x_iadd F d_Pu_insert_27 ?_
  replace hm := xm_b_some hm
  obtain ⟨o35, k36, k37, h38, hm, c_o35, d_o35⟩ := hm
  refine x_callSN (n := 2) (host := "TreeStore") (wr := [((ob0 0), .inr (5, [.ref (ad34 0), .ref (ad0 1), .int (Pu_size s0)])), ((ad34 0), .inl (cA 0, o30.1, .inl o30.2))]) F (c_Ts_withRoom l D cA n (ad0 1) (Pu_parts s0) ((Pu_size s0) + (1 : Int32)) o35 k36 h38) kw_313 kn_375 kw_39 kw_312 ⟨by decide, by decide, by decide +kernel⟩ rfl (by decide) (by decide) [1] [0, 2] rfl rfl (by decide) (by decide) (by decide) rfl (Nat.le_of_ble_eq_true rfl) (by omega) (by omega) d_Pu_insert_28 (fun ad39 => ?_)
  refine x_nf (ws' := [((ob0 0), .inr (5, [.ref (ad34 0), .ref (ad0 1), .int (Pu_size s0)])), ((ad34 0), .inl (cA 0, o30.1, .inl o30.2)), ((ad39 0), .inl (cA 0, o35.1, .inl o35.2))]) (st' := [.ref (ad39 0), .ref (ob0 0)]) rfl rfl ?_
  refine x_put (ws' := [((ob0 0), .inr (5, [.ref (ad34 0), .ref (ad39 0), .int (Pu_size s0)])), ((ad34 0), .inl (cA 0, o30.1, .inl o30.2)), ((ad39 0), .inl (cA 0, o35.1, .inl o35.2))]) F ck_Pu hin_Pu 0 1 rfl (by decide) kw_188 rfl rfl rfl rfl (Nat.le_of_ble_eq_true rfl) rfl d_Pu_insert_31 ?_
  refine x_aload_n F d_Pu_insert_34 0 rfl rfl ?_
  refine x_get F ck_Pu hin_Pu 0 2 rfl (by decide) kw_190 rfl rfl d_Pu_insert_35 ?_
  refine x_istore_n (lv' := [(3, .int (Pu_size s0)), (0, .ref (ob0 0)), (1, .int p0), (2, .int p1)]) F d_Pu_insert_38 rfl (by decide) rfl ?_
  replace hm := xm_b_some hm
  obtain ⟨o57, k58, k59, h60, hm, c_o57, d_o57⟩ := hm
  refine x_sub [0, 1, 2] (by decide) ?_ (x_lv [1, 2, 3, 0] ?_ (wl_Pu_insert_39 F n ob0 p0 p1  n (Pu_size s0) (o30, o35, (Pu_size s0)) (xa [(ad34 0), (ad39 0)]) _ _ o57 k58 h60 (by omega) (by omega) (fun ad61 => ?_)))
  · rfl
  · rfl
  refine x_nf2 (ws' := [((ob0 0), .inr (5, [.ref (ad61 0), .ref (ad61 1), .int (Pu_size (o57.2))])), ((ad61 0), .inl (cA 0, (Pu_features (o57.2)).1, .inl (Pu_features (o57.2)).2)), ((ad61 1), .inl (cA 0, (Pu_parts (o57.2)).1, .inl (Pu_parts (o57.2)).2))]) (lv' := [(0, .ref (ob0 0)), (1, .int p0), (2, .int p1), (3, .int (o57.1))]) rfl rfl ?_
  refine x_aload_n F d_Pu_insert_95 0 rfl rfl ?_
  refine x_get F ck_Pu hin_Pu 0 0 rfl (by decide) kw_186 rfl rfl d_Pu_insert_96 ?_
  refine x_iload_n F d_Pu_insert_99 3 rfl rfl ?_
  refine x_iload_n F d_Pu_insert_100 1 rfl rfl ?_
  replace hm := xm_wr_some hm
  obtain ⟨a62, e_a62, b_a62, hm⟩ := hm
  refine x_iast (x := (Pu_features (o57.2))) (x' := a62) (ws' := [((ob0 0), .inr (5, [.ref (ad61 0), .ref (ad61 1), .int (Pu_size (o57.2))])), ((ad61 0), .inl (cA 0, a62.1, .inl a62.2)), ((ad61 1), .inl (cA 0, (Pu_parts (o57.2)).1, .inl (Pu_parts (o57.2)).2))]) F 1 rfl e_a62 b_a62 rfl d_Pu_insert_101 ?_
  refine x_aload_n F d_Pu_insert_102 0 rfl rfl ?_
  refine x_get F ck_Pu hin_Pu 0 1 rfl (by decide) kw_188 rfl rfl d_Pu_insert_103 ?_
  refine x_iload_n F d_Pu_insert_106 3 rfl rfl ?_
  refine x_iload_n F d_Pu_insert_107 2 rfl rfl ?_
  replace hm := xm_wr_some hm
  obtain ⟨a63, e_a63, b_a63, hm⟩ := hm
  refine x_iast (x := (Pu_parts (o57.2))) (x' := a63) (ws' := [((ob0 0), .inr (5, [.ref (ad61 0), .ref (ad61 1), .int (Pu_size (o57.2))])), ((ad61 0), .inl (cA 0, a62.1, .inl a62.2)), ((ad61 1), .inl (cA 0, a63.1, .inl a63.2))]) F 2 rfl e_a63 b_a63 rfl d_Pu_insert_108 ?_
  refine x_aload_n F d_Pu_insert_109 0 rfl rfl ?_
  refine x_dup F d_Pu_insert_110 rfl ?_
  refine x_get F ck_Pu hin_Pu 0 2 rfl (by decide) kw_190 rfl rfl d_Pu_insert_111 ?_
  refine x_iconst (v := (1 : Int32)) F d_Pu_insert_114 (by decide) ?_
  refine x_iadd F d_Pu_insert_115 ?_
  refine x_put (ws' := [((ob0 0), .inr (5, [.ref (ad61 0), .ref (ad61 1), .int ((Pu_size (o57.2)) + (1 : Int32))])), ((ad61 0), .inl (cA 0, a62.1, .inl a62.2)), ((ad61 1), .inl (cA 0, a63.1, .inl a63.2))]) F ck_Pu hin_Pu 0 2 rfl (by decide) kw_190 rfl rfl rfl rfl (Nat.le_of_ble_eq_true rfl) rfl d_Pu_insert_116 ?_
  replace hm := xm_p_some hm
  obtain ⟨eo, c_o, d_o⟩ := hm
  subst eo
  refine x_sub [0, 1, 2] (by decide) ?_ (xe_v E ad61 (by omega) (by omega)  d_Pu_insert_119)
  rfl

noncomputable def m_Fi_init (n : Nat)   : MO (S_Fi) := (xm_na (16 : Int32) (fun a13 => (xm_na (16 : Int32) (fun a16 => (xm_na (16 : Int32) (fun a19 => (xm_na (16 : Int32) (fun a22 => (xm_p (a13, a16, (0 : Int32), a19, a22, (0 : Int32)))))))))))
set_option maxHeartbeats 4000000 in
set_option maxRecDepth 100000 in
theorem c_Fi_init (l : Launch) (D : va_G) (cA : Nat → ClassId) (n : Nat) (q0 : Nat)  (out : S_Fi) (k : KC) (hm : m_Fi_init n   = some (out, k)) : XM l D cA y_Fi_init b_Fi_init 1 none 1 24 [.ref q0] (([(q0, .inr (0, [.null, .null, .int (0 : Int32), .null, .null, .int (0 : Int32)]))])) k (fun _ => none) (fun ad => (w_Fi cA (xa [q0]) ad  out)) := by
  refine x_met (cc := b_Fi_init) (nL := 1) (ret := none) R_Fi (by decide) (Nat.le_of_ble_eq_true rfl) rfl (fun X F I E => ?_)
  unfold m_Fi_init at hm
  refine x_nf2 (ws' := [(q0, .inr (0, [.null, .null, .int (0 : Int32), .null, .null, .int (0 : Int32)]))]) (lv' := [(0, .ref q0)]) rfl rfl ?_
  refine x_aload_n F d_Fi_init_0 0 rfl rfl ?_
  refine x_objInit F kt_70_15 kt_57_7 kt_58_8 (by decide) (Nat.le_of_ble_eq_true rfl) d_Fi_init_1 ?_
  refine x_aload_n F d_Fi_init_4 0 rfl rfl ?_
  refine x_bipush (v := (16 : Int32)) F d_Fi_init_5 (by decide) ?_
  replace hm := xm_na_some hm
  obtain ⟨a13, k15, e_a13, n_a13, b_a13, hm, c_a13, d_a13⟩ := hm
  refine x_newa (x := a13) F kw_97 e_a13 n_a13 b_a13 (by omega) (by omega) d_Fi_init_7 (fun q_14 => ?_)
  refine x_nf (ws' := [(q0, .inr (0, [.null, .null, .int (0 : Int32), .null, .null, .int (0 : Int32)])), (q_14, .inl (cA 0, a13.1, .inl a13.2))]) (st' := [.ref q_14, .ref q0]) rfl rfl ?_
  refine x_put (ws' := [(q0, .inr (0, [.ref q_14, .null, .int (0 : Int32), .null, .null, .int (0 : Int32)])), (q_14, .inl (cA 0, a13.1, .inl a13.2))]) F ck_Fi hin_Fi 0 0 rfl (by decide) kw_71 rfl rfl rfl rfl (Nat.le_of_ble_eq_true rfl) rfl d_Fi_init_9 ?_
  refine x_aload_n F d_Fi_init_12 0 rfl rfl ?_
  refine x_bipush (v := (16 : Int32)) F d_Fi_init_13 (by decide) ?_
  replace hm := xm_na_some hm
  obtain ⟨a16, k18, e_a16, n_a16, b_a16, hm, c_a16, d_a16⟩ := hm
  refine x_newa (x := a16) F kw_97 e_a16 n_a16 b_a16 (by omega) (by omega) d_Fi_init_15 (fun q_17 => ?_)
  refine x_nf (ws' := [(q0, .inr (0, [.ref q_14, .null, .int (0 : Int32), .null, .null, .int (0 : Int32)])), (q_14, .inl (cA 0, a13.1, .inl a13.2)), (q_17, .inl (cA 0, a16.1, .inl a16.2))]) (st' := [.ref q_17, .ref q0]) rfl rfl ?_
  refine x_put (ws' := [(q0, .inr (0, [.ref q_14, .ref q_17, .int (0 : Int32), .null, .null, .int (0 : Int32)])), (q_14, .inl (cA 0, a13.1, .inl a13.2)), (q_17, .inl (cA 0, a16.1, .inl a16.2))]) F ck_Fi hin_Fi 0 1 rfl (by decide) kw_74 rfl rfl rfl rfl (Nat.le_of_ble_eq_true rfl) rfl d_Fi_init_17 ?_
  refine x_aload_n F d_Fi_init_20 0 rfl rfl ?_
  refine x_iconst (v := (0 : Int32)) F d_Fi_init_21 (by decide) ?_
  refine x_put (ws' := [(q0, .inr (0, [.ref q_14, .ref q_17, .int (0 : Int32), .null, .null, .int (0 : Int32)])), (q_14, .inl (cA 0, a13.1, .inl a13.2)), (q_17, .inl (cA 0, a16.1, .inl a16.2))]) F ck_Fi hin_Fi 0 2 rfl (by decide) kw_78 rfl rfl rfl rfl (Nat.le_of_ble_eq_true rfl) rfl d_Fi_init_22 ?_
  refine x_aload_n F d_Fi_init_25 0 rfl rfl ?_
  refine x_bipush (v := (16 : Int32)) F d_Fi_init_26 (by decide) ?_
  replace hm := xm_na_some hm
  obtain ⟨a19, k21, e_a19, n_a19, b_a19, hm, c_a19, d_a19⟩ := hm
  refine x_newa (x := a19) F kw_97 e_a19 n_a19 b_a19 (by omega) (by omega) d_Fi_init_28 (fun q_20 => ?_)
  refine x_nf (ws' := [(q0, .inr (0, [.ref q_14, .ref q_17, .int (0 : Int32), .null, .null, .int (0 : Int32)])), (q_14, .inl (cA 0, a13.1, .inl a13.2)), (q_17, .inl (cA 0, a16.1, .inl a16.2)), (q_20, .inl (cA 0, a19.1, .inl a19.2))]) (st' := [.ref q_20, .ref q0]) rfl rfl ?_
  refine x_put (ws' := [(q0, .inr (0, [.ref q_14, .ref q_17, .int (0 : Int32), .ref q_20, .null, .int (0 : Int32)])), (q_14, .inl (cA 0, a13.1, .inl a13.2)), (q_17, .inl (cA 0, a16.1, .inl a16.2)), (q_20, .inl (cA 0, a19.1, .inl a19.2))]) F ck_Fi hin_Fi 0 3 rfl (by decide) kw_81 rfl rfl rfl rfl (Nat.le_of_ble_eq_true rfl) rfl d_Fi_init_30 ?_
  refine x_aload_n F d_Fi_init_33 0 rfl rfl ?_
  refine x_bipush (v := (16 : Int32)) F d_Fi_init_34 (by decide) ?_
  replace hm := xm_na_some hm
  obtain ⟨a22, k24, e_a22, n_a22, b_a22, hm, c_a22, d_a22⟩ := hm
  refine x_newa (x := a22) F kw_97 e_a22 n_a22 b_a22 (by omega) (by omega) d_Fi_init_36 (fun q_23 => ?_)
  refine x_nf (ws' := [(q0, .inr (0, [.ref q_14, .ref q_17, .int (0 : Int32), .ref q_20, .null, .int (0 : Int32)])), (q_14, .inl (cA 0, a13.1, .inl a13.2)), (q_17, .inl (cA 0, a16.1, .inl a16.2)), (q_20, .inl (cA 0, a19.1, .inl a19.2)), (q_23, .inl (cA 0, a22.1, .inl a22.2))]) (st' := [.ref q_23, .ref q0]) rfl rfl ?_
  refine x_put (ws' := [(q0, .inr (0, [.ref q_14, .ref q_17, .int (0 : Int32), .ref q_20, .ref q_23, .int (0 : Int32)])), (q_14, .inl (cA 0, a13.1, .inl a13.2)), (q_17, .inl (cA 0, a16.1, .inl a16.2)), (q_20, .inl (cA 0, a19.1, .inl a19.2)), (q_23, .inl (cA 0, a22.1, .inl a22.2))]) F ck_Fi hin_Fi 0 4 rfl (by decide) kw_82 rfl rfl rfl rfl (Nat.le_of_ble_eq_true rfl) rfl d_Fi_init_38 ?_
  refine x_aload_n F d_Fi_init_41 0 rfl rfl ?_
  refine x_iconst (v := (0 : Int32)) F d_Fi_init_42 (by decide) ?_
  refine x_put (ws' := [(q0, .inr (0, [.ref q_14, .ref q_17, .int (0 : Int32), .ref q_20, .ref q_23, .int (0 : Int32)])), (q_14, .inl (cA 0, a13.1, .inl a13.2)), (q_17, .inl (cA 0, a16.1, .inl a16.2)), (q_20, .inl (cA 0, a19.1, .inl a19.2)), (q_23, .inl (cA 0, a22.1, .inl a22.2))]) F ck_Fi hin_Fi 0 5 rfl (by decide) kw_83 rfl rfl rfl rfl (Nat.le_of_ble_eq_true rfl) rfl d_Fi_init_43 ?_
  replace hm := xm_p_some hm
  obtain ⟨eo, c_o, d_o⟩ := hm
  subst eo
  refine x_sub [0, 1, 2, 3, 4] (by decide) ?_ (xe_v E (xa [q_14, q_17, q_20, q_23]) (by omega) (by omega)  d_Fi_init_46)
  rfl

noncomputable def m_Fi_takeIn (n : Nat) (s0 : S_Fi) (s1 : S_Pu)  : MO (Int32 × S_Fi) := (xm_b (m_Ts_withRoom n (Fi_features s0) ((Fi_used s0) + (Pu_size s1))) (fun o13 => (xm_b (m_Ts_withRoom n (Fi_parts s0) ((Fi_used s0) + (Pu_size s1))) (fun o18 => (xm_cp (Pu_features s1) o13 (0 : Int32) (Fi_used s0) (Pu_size s1) (fun a23 => (xm_cp (Pu_parts s1) o18 (0 : Int32) (Fi_used s0) (Pu_size s1) (fun a24 => (xm_p ((Fi_used s0), (a23, a24, ((Fi_used s0) + (Pu_size s1)), (Fi_nextFeatures s0), (Fi_nextParts s0), (Fi_nextUsed s0))))))))))))
set_option maxHeartbeats 4000000 in
set_option maxRecDepth 100000 in
theorem c_Fi_takeIn (l : Launch) (D : va_G) (cA : Nat → ClassId) (n : Nat) (ob0 ad0 : Nat → Nat) (s0 : S_Fi) (ob1 ad1 : Nat → Nat) (s1 : S_Pu)  (out : Int32 × S_Fi) (k : KC) (hm : m_Fi_takeIn n s0 s1  = some (out, k)) : XM l D cA y_Fi_takeIn b_Fi_takeIn 3 (some FieldType.int) 3 107 [.ref (ob0 0), .ref (ob1 0)] ((w_Fi cA ob0 ad0  s0) ++ (w_Pu cA ob1 ad1  s1)) k (fun _ => some (.int (out.1))) (fun ad => (w_Fi cA ob0 ad  (out.2)) ++ (w_Pu cA ob1 ad1  s1)) := by
  refine x_met (cc := b_Fi_takeIn) (nL := 3) (ret := (some FieldType.int)) R_Fi (by decide) (Nat.le_of_ble_eq_true rfl) rfl (fun X F I E => ?_)
  unfold m_Fi_takeIn at hm
  refine x_nf2 (ws' := [((ob0 0), .inr (0, [.ref (ad0 0), .ref (ad0 1), .int (Fi_used s0), .ref (ad0 2), .ref (ad0 3), .int (Fi_nextUsed s0)])), ((ad0 0), .inl (cA 0, (Fi_features s0).1, .inl (Fi_features s0).2)), ((ad0 1), .inl (cA 0, (Fi_parts s0).1, .inl (Fi_parts s0).2)), ((ad0 2), .inl (cA 0, (Fi_nextFeatures s0).1, .inl (Fi_nextFeatures s0).2)), ((ad0 3), .inl (cA 0, (Fi_nextParts s0).1, .inl (Fi_nextParts s0).2)), ((ob1 0), .inr (5, [.ref (ad1 0), .ref (ad1 1), .int (Pu_size s1)])), ((ad1 0), .inl (cA 0, (Pu_features s1).1, .inl (Pu_features s1).2)), ((ad1 1), .inl (cA 0, (Pu_parts s1).1, .inl (Pu_parts s1).2))]) (lv' := [(0, .ref (ob0 0)), (1, .ref (ob1 0))]) rfl rfl ?_
  refine x_aload_n F d_Fi_takeIn_0 0 rfl rfl ?_
  refine x_get F ck_Fi hin_Fi 0 2 rfl (by decide) kw_78 rfl rfl d_Fi_takeIn_1 ?_
  refine x_istore_n (lv' := [(2, .int (Fi_used s0)), (0, .ref (ob0 0)), (1, .ref (ob1 0))]) F d_Fi_takeIn_4 rfl (by decide) rfl ?_
  refine x_aload_n F d_Fi_takeIn_5 1 rfl rfl ?_
  refine x_aload_n F d_Fi_takeIn_6 1 rfl rfl ?_
  refine x_get F ck_Fi hin_Fi 0 0 rfl (by decide) kw_71 rfl rfl d_Fi_takeIn_7 ?_
  refine x_aload_n F d_Fi_takeIn_10 1 rfl rfl ?_
  refine x_get F ck_Fi hin_Fi 0 2 rfl (by decide) kw_78 rfl rfl d_Fi_takeIn_11 ?_
  refine x_aload_n F d_Fi_takeIn_14 2 rfl rfl ?_
  refine x_getN F ck_Pu hin_Pu 5 2 rfl (by decide) kn_191 rfl rfl d_Fi_takeIn_15 ?_
  refine x_iadd F d_Fi_takeIn_18 ?_
  replace hm := xm_b_some hm
  obtain ⟨o13, k14, k15, h16, hm, c_o13, d_o13⟩ := hm
  refine x_callSN (n := 2) (host := "TreeStore") (wr := [((ob0 0), .inr (0, [.ref (ad0 0), .ref (ad0 1), .int (Fi_used s0), .ref (ad0 2), .ref (ad0 3), .int (Fi_nextUsed s0)])), ((ad0 1), .inl (cA 0, (Fi_parts s0).1, .inl (Fi_parts s0).2)), ((ad0 2), .inl (cA 0, (Fi_nextFeatures s0).1, .inl (Fi_nextFeatures s0).2)), ((ad0 3), .inl (cA 0, (Fi_nextParts s0).1, .inl (Fi_nextParts s0).2)), ((ob1 0), .inr (5, [.ref (ad1 0), .ref (ad1 1), .int (Pu_size s1)])), ((ad1 0), .inl (cA 0, (Pu_features s1).1, .inl (Pu_features s1).2)), ((ad1 1), .inl (cA 0, (Pu_parts s1).1, .inl (Pu_parts s1).2))]) F (c_Ts_withRoom l D cA n (ad0 0) (Fi_features s0) ((Fi_used s0) + (Pu_size s1)) o13 k14 h16) kw_313 kn_392 kw_39 kw_312 ⟨by decide, by decide, by decide +kernel⟩ rfl (by decide) (by decide) [1] [0, 2, 3, 4, 5, 6, 7] rfl rfl (by decide) (by decide) (by decide) rfl (Nat.le_of_ble_eq_true rfl) (by omega) (by omega) d_Fi_takeIn_19 (fun ad17 => ?_)
  refine x_nf (ws' := [((ob0 0), .inr (0, [.ref (ad0 0), .ref (ad0 1), .int (Fi_used s0), .ref (ad0 2), .ref (ad0 3), .int (Fi_nextUsed s0)])), ((ad0 1), .inl (cA 0, (Fi_parts s0).1, .inl (Fi_parts s0).2)), ((ad0 2), .inl (cA 0, (Fi_nextFeatures s0).1, .inl (Fi_nextFeatures s0).2)), ((ad0 3), .inl (cA 0, (Fi_nextParts s0).1, .inl (Fi_nextParts s0).2)), ((ob1 0), .inr (5, [.ref (ad1 0), .ref (ad1 1), .int (Pu_size s1)])), ((ad1 0), .inl (cA 0, (Pu_features s1).1, .inl (Pu_features s1).2)), ((ad1 1), .inl (cA 0, (Pu_parts s1).1, .inl (Pu_parts s1).2)), ((ad17 0), .inl (cA 0, o13.1, .inl o13.2))]) (st' := [.ref (ad17 0), .ref (ob0 0)]) rfl rfl ?_
  refine x_put (ws' := [((ob0 0), .inr (0, [.ref (ad17 0), .ref (ad0 1), .int (Fi_used s0), .ref (ad0 2), .ref (ad0 3), .int (Fi_nextUsed s0)])), ((ad0 1), .inl (cA 0, (Fi_parts s0).1, .inl (Fi_parts s0).2)), ((ad0 2), .inl (cA 0, (Fi_nextFeatures s0).1, .inl (Fi_nextFeatures s0).2)), ((ad0 3), .inl (cA 0, (Fi_nextParts s0).1, .inl (Fi_nextParts s0).2)), ((ob1 0), .inr (5, [.ref (ad1 0), .ref (ad1 1), .int (Pu_size s1)])), ((ad1 0), .inl (cA 0, (Pu_features s1).1, .inl (Pu_features s1).2)), ((ad1 1), .inl (cA 0, (Pu_parts s1).1, .inl (Pu_parts s1).2)), ((ad17 0), .inl (cA 0, o13.1, .inl o13.2))]) F ck_Fi hin_Fi 0 0 rfl (by decide) kw_71 rfl rfl rfl rfl (Nat.le_of_ble_eq_true rfl) rfl d_Fi_takeIn_22 ?_
  refine x_aload_n F d_Fi_takeIn_25 1 rfl rfl ?_
  refine x_aload_n F d_Fi_takeIn_26 1 rfl rfl ?_
  refine x_get F ck_Fi hin_Fi 0 1 rfl (by decide) kw_74 rfl rfl d_Fi_takeIn_27 ?_
  refine x_aload_n F d_Fi_takeIn_30 1 rfl rfl ?_
  refine x_get F ck_Fi hin_Fi 0 2 rfl (by decide) kw_78 rfl rfl d_Fi_takeIn_31 ?_
  refine x_aload_n F d_Fi_takeIn_34 2 rfl rfl ?_
  refine x_getN F ck_Pu hin_Pu 4 2 rfl (by decide) kn_191 rfl rfl d_Fi_takeIn_35 ?_
  refine x_iadd F d_Fi_takeIn_38 ?_
  replace hm := xm_b_some hm
  obtain ⟨o18, k19, k20, h21, hm, c_o18, d_o18⟩ := hm
  refine x_callSN (n := 2) (host := "TreeStore") (wr := [((ob0 0), .inr (0, [.ref (ad17 0), .ref (ad0 1), .int (Fi_used s0), .ref (ad0 2), .ref (ad0 3), .int (Fi_nextUsed s0)])), ((ad0 2), .inl (cA 0, (Fi_nextFeatures s0).1, .inl (Fi_nextFeatures s0).2)), ((ad0 3), .inl (cA 0, (Fi_nextParts s0).1, .inl (Fi_nextParts s0).2)), ((ob1 0), .inr (5, [.ref (ad1 0), .ref (ad1 1), .int (Pu_size s1)])), ((ad1 0), .inl (cA 0, (Pu_features s1).1, .inl (Pu_features s1).2)), ((ad1 1), .inl (cA 0, (Pu_parts s1).1, .inl (Pu_parts s1).2)), ((ad17 0), .inl (cA 0, o13.1, .inl o13.2))]) F (c_Ts_withRoom l D cA n (ad0 1) (Fi_parts s0) ((Fi_used s0) + (Pu_size s1)) o18 k19 h21) kw_313 kn_392 kw_39 kw_312 ⟨by decide, by decide, by decide +kernel⟩ rfl (by decide) (by decide) [1] [0, 2, 3, 4, 5, 6, 7] rfl rfl (by decide) (by decide) (by decide) rfl (Nat.le_of_ble_eq_true rfl) (by omega) (by omega) d_Fi_takeIn_39 (fun ad22 => ?_)
  refine x_nf (ws' := [((ob0 0), .inr (0, [.ref (ad17 0), .ref (ad0 1), .int (Fi_used s0), .ref (ad0 2), .ref (ad0 3), .int (Fi_nextUsed s0)])), ((ad0 2), .inl (cA 0, (Fi_nextFeatures s0).1, .inl (Fi_nextFeatures s0).2)), ((ad0 3), .inl (cA 0, (Fi_nextParts s0).1, .inl (Fi_nextParts s0).2)), ((ob1 0), .inr (5, [.ref (ad1 0), .ref (ad1 1), .int (Pu_size s1)])), ((ad1 0), .inl (cA 0, (Pu_features s1).1, .inl (Pu_features s1).2)), ((ad1 1), .inl (cA 0, (Pu_parts s1).1, .inl (Pu_parts s1).2)), ((ad17 0), .inl (cA 0, o13.1, .inl o13.2)), ((ad22 0), .inl (cA 0, o18.1, .inl o18.2))]) (st' := [.ref (ad22 0), .ref (ob0 0)]) rfl rfl ?_
  refine x_put (ws' := [((ob0 0), .inr (0, [.ref (ad17 0), .ref (ad22 0), .int (Fi_used s0), .ref (ad0 2), .ref (ad0 3), .int (Fi_nextUsed s0)])), ((ad0 2), .inl (cA 0, (Fi_nextFeatures s0).1, .inl (Fi_nextFeatures s0).2)), ((ad0 3), .inl (cA 0, (Fi_nextParts s0).1, .inl (Fi_nextParts s0).2)), ((ob1 0), .inr (5, [.ref (ad1 0), .ref (ad1 1), .int (Pu_size s1)])), ((ad1 0), .inl (cA 0, (Pu_features s1).1, .inl (Pu_features s1).2)), ((ad1 1), .inl (cA 0, (Pu_parts s1).1, .inl (Pu_parts s1).2)), ((ad17 0), .inl (cA 0, o13.1, .inl o13.2)), ((ad22 0), .inl (cA 0, o18.1, .inl o18.2))]) F ck_Fi hin_Fi 0 1 rfl (by decide) kw_74 rfl rfl rfl rfl (Nat.le_of_ble_eq_true rfl) rfl d_Fi_takeIn_42 ?_
  refine x_aload_n F d_Fi_takeIn_45 2 rfl rfl ?_
  refine x_getN F ck_Pu hin_Pu 3 0 rfl (by decide) kn_187 rfl rfl d_Fi_takeIn_46 ?_
  refine x_iconst (v := (0 : Int32)) F d_Fi_takeIn_49 (by decide) ?_
  refine x_aload_n F d_Fi_takeIn_50 1 rfl rfl ?_
  refine x_get F ck_Fi hin_Fi 0 0 rfl (by decide) kw_71 rfl rfl d_Fi_takeIn_51 ?_
  refine x_iload_n F d_Fi_takeIn_54 0 rfl rfl ?_
  refine x_aload_n F d_Fi_takeIn_55 2 rfl rfl ?_
  refine x_getN F ck_Pu hin_Pu 3 2 rfl (by decide) kn_191 rfl rfl d_Fi_takeIn_56 ?_
  replace hm := xm_cp_some hm
  obtain ⟨a23, e_a23, b_a23, hm⟩ := hm
  refine x_copy (x := (Pu_features s1)) (y := o13) (y' := a23) (ws' := [((ob0 0), .inr (0, [.ref (ad17 0), .ref (ad22 0), .int (Fi_used s0), .ref (ad0 2), .ref (ad0 3), .int (Fi_nextUsed s0)])), ((ad0 2), .inl (cA 0, (Fi_nextFeatures s0).1, .inl (Fi_nextFeatures s0).2)), ((ad0 3), .inl (cA 0, (Fi_nextParts s0).1, .inl (Fi_nextParts s0).2)), ((ob1 0), .inr (5, [.ref (ad1 0), .ref (ad1 1), .int (Pu_size s1)])), ((ad1 0), .inl (cA 0, (Pu_features s1).1, .inl (Pu_features s1).2)), ((ad1 1), .inl (cA 0, (Pu_parts s1).1, .inl (Pu_parts s1).2)), ((ad17 0), .inl (cA 0, a23.1, .inl a23.2)), ((ad22 0), .inl (cA 0, o18.1, .inl o18.2))]) F kt_393_16 kt_332_4 kt_331_5 kw_50 4 6 rfl rfl b_a23 e_a23 rfl (by decide) (Nat.le_of_ble_eq_true rfl) d_Fi_takeIn_59 ?_
  refine x_aload_n F d_Fi_takeIn_62 2 rfl rfl ?_
  refine x_getN F ck_Pu hin_Pu 3 1 rfl (by decide) kn_189 rfl rfl d_Fi_takeIn_63 ?_
  refine x_iconst (v := (0 : Int32)) F d_Fi_takeIn_66 (by decide) ?_
  refine x_aload_n F d_Fi_takeIn_67 1 rfl rfl ?_
  refine x_get F ck_Fi hin_Fi 0 1 rfl (by decide) kw_74 rfl rfl d_Fi_takeIn_68 ?_
  refine x_iload_n F d_Fi_takeIn_71 0 rfl rfl ?_
  refine x_aload_n F d_Fi_takeIn_72 2 rfl rfl ?_
  refine x_getN F ck_Pu hin_Pu 3 2 rfl (by decide) kn_191 rfl rfl d_Fi_takeIn_73 ?_
  replace hm := xm_cp_some hm
  obtain ⟨a24, e_a24, b_a24, hm⟩ := hm
  refine x_copy (x := (Pu_parts s1)) (y := o18) (y' := a24) (ws' := [((ob0 0), .inr (0, [.ref (ad17 0), .ref (ad22 0), .int (Fi_used s0), .ref (ad0 2), .ref (ad0 3), .int (Fi_nextUsed s0)])), ((ad0 2), .inl (cA 0, (Fi_nextFeatures s0).1, .inl (Fi_nextFeatures s0).2)), ((ad0 3), .inl (cA 0, (Fi_nextParts s0).1, .inl (Fi_nextParts s0).2)), ((ob1 0), .inr (5, [.ref (ad1 0), .ref (ad1 1), .int (Pu_size s1)])), ((ad1 0), .inl (cA 0, (Pu_features s1).1, .inl (Pu_features s1).2)), ((ad1 1), .inl (cA 0, (Pu_parts s1).1, .inl (Pu_parts s1).2)), ((ad17 0), .inl (cA 0, a23.1, .inl a23.2)), ((ad22 0), .inl (cA 0, a24.1, .inl a24.2))]) F kt_393_16 kt_332_4 kt_331_5 kw_50 5 7 rfl rfl b_a24 e_a24 rfl (by decide) (Nat.le_of_ble_eq_true rfl) d_Fi_takeIn_76 ?_
  refine x_aload_n F d_Fi_takeIn_79 1 rfl rfl ?_
  refine x_dup F d_Fi_takeIn_80 rfl ?_
  refine x_get F ck_Fi hin_Fi 0 2 rfl (by decide) kw_78 rfl rfl d_Fi_takeIn_81 ?_
  refine x_aload_n F d_Fi_takeIn_84 2 rfl rfl ?_
  refine x_getN F ck_Pu hin_Pu 3 2 rfl (by decide) kn_191 rfl rfl d_Fi_takeIn_85 ?_
  refine x_iadd F d_Fi_takeIn_88 ?_
  refine x_put (ws' := [((ob0 0), .inr (0, [.ref (ad17 0), .ref (ad22 0), .int ((Fi_used s0) + (Pu_size s1)), .ref (ad0 2), .ref (ad0 3), .int (Fi_nextUsed s0)])), ((ad0 2), .inl (cA 0, (Fi_nextFeatures s0).1, .inl (Fi_nextFeatures s0).2)), ((ad0 3), .inl (cA 0, (Fi_nextParts s0).1, .inl (Fi_nextParts s0).2)), ((ob1 0), .inr (5, [.ref (ad1 0), .ref (ad1 1), .int (Pu_size s1)])), ((ad1 0), .inl (cA 0, (Pu_features s1).1, .inl (Pu_features s1).2)), ((ad1 1), .inl (cA 0, (Pu_parts s1).1, .inl (Pu_parts s1).2)), ((ad17 0), .inl (cA 0, a23.1, .inl a23.2)), ((ad22 0), .inl (cA 0, a24.1, .inl a24.2))]) F ck_Fi hin_Fi 0 2 rfl (by decide) kw_78 rfl rfl rfl rfl (Nat.le_of_ble_eq_true rfl) rfl d_Fi_takeIn_89 ?_
  refine x_iload_n F d_Fi_takeIn_92 0 rfl rfl ?_
  replace hm := xm_p_some hm
  obtain ⟨eo, c_o, d_o⟩ := hm
  subst eo
  refine x_sub [0, 6, 7, 1, 2, 3, 4, 5] (by decide) ?_ (xe_i E (xa [(ad17 0), (ad22 0), (ad0 2), (ad0 3)]) (by omega) (by omega) rfl (xz_i _) d_Fi_takeIn_93)
  rfl

noncomputable def m_Fi_beginMove (n : Nat) (s0 : S_Fi)  : MO (S_Fi) := (xm_b (m_Ts_withRoom n (Fi_nextFeatures s0) (Fi_used s0)) (fun o11 => (xm_b (m_Ts_withRoom n (Fi_nextParts s0) (Fi_used s0)) (fun o16 => (xm_p ((Fi_features s0), (Fi_parts s0), (Fi_used s0), o11, o16, (0 : Int32)))))))
set_option maxHeartbeats 4000000 in
set_option maxRecDepth 100000 in
theorem c_Fi_beginMove (l : Launch) (D : va_G) (cA : Nat → ClassId) (n : Nat) (ob0 ad0 : Nat → Nat) (s0 : S_Fi)  (out : S_Fi) (k : KC) (hm : m_Fi_beginMove n s0  = some (out, k)) : XM l D cA y_Fi_beginMove b_Fi_beginMove 1 none 3 107 [.ref (ob0 0)] ((w_Fi cA ob0 ad0  s0)) k (fun _ => none) (fun ad => (w_Fi cA ob0 ad  out)) := by
  refine x_met (cc := b_Fi_beginMove) (nL := 1) (ret := none) R_Fi (by decide) (Nat.le_of_ble_eq_true rfl) rfl (fun X F I E => ?_)
  unfold m_Fi_beginMove at hm
  refine x_nf2 (ws' := [((ob0 0), .inr (0, [.ref (ad0 0), .ref (ad0 1), .int (Fi_used s0), .ref (ad0 2), .ref (ad0 3), .int (Fi_nextUsed s0)])), ((ad0 0), .inl (cA 0, (Fi_features s0).1, .inl (Fi_features s0).2)), ((ad0 1), .inl (cA 0, (Fi_parts s0).1, .inl (Fi_parts s0).2)), ((ad0 2), .inl (cA 0, (Fi_nextFeatures s0).1, .inl (Fi_nextFeatures s0).2)), ((ad0 3), .inl (cA 0, (Fi_nextParts s0).1, .inl (Fi_nextParts s0).2))]) (lv' := [(0, .ref (ob0 0))]) rfl rfl ?_
  refine x_aload_n F d_Fi_beginMove_0 0 rfl rfl ?_
  refine x_aload_n F d_Fi_beginMove_1 0 rfl rfl ?_
  refine x_get F ck_Fi hin_Fi 0 3 rfl (by decide) kw_81 rfl rfl d_Fi_beginMove_2 ?_
  refine x_aload_n F d_Fi_beginMove_5 0 rfl rfl ?_
  refine x_get F ck_Fi hin_Fi 0 2 rfl (by decide) kw_78 rfl rfl d_Fi_beginMove_6 ?_
  replace hm := xm_b_some hm
  obtain ⟨o11, k12, k13, h14, hm, c_o11, d_o11⟩ := hm
  refine x_callSN (n := 2) (host := "TreeStore") (wr := [((ob0 0), .inr (0, [.ref (ad0 0), .ref (ad0 1), .int (Fi_used s0), .ref (ad0 2), .ref (ad0 3), .int (Fi_nextUsed s0)])), ((ad0 0), .inl (cA 0, (Fi_features s0).1, .inl (Fi_features s0).2)), ((ad0 1), .inl (cA 0, (Fi_parts s0).1, .inl (Fi_parts s0).2)), ((ad0 3), .inl (cA 0, (Fi_nextParts s0).1, .inl (Fi_nextParts s0).2))]) F (c_Ts_withRoom l D cA n (ad0 2) (Fi_nextFeatures s0) (Fi_used s0) o11 k12 h14) kw_313 kn_392 kw_39 kw_312 ⟨by decide, by decide, by decide +kernel⟩ rfl (by decide) (by decide) [3] [0, 1, 2, 4] rfl rfl (by decide) (by decide) (by decide) rfl (Nat.le_of_ble_eq_true rfl) (by omega) (by omega) d_Fi_beginMove_9 (fun ad15 => ?_)
  refine x_nf (ws' := [((ob0 0), .inr (0, [.ref (ad0 0), .ref (ad0 1), .int (Fi_used s0), .ref (ad0 2), .ref (ad0 3), .int (Fi_nextUsed s0)])), ((ad0 0), .inl (cA 0, (Fi_features s0).1, .inl (Fi_features s0).2)), ((ad0 1), .inl (cA 0, (Fi_parts s0).1, .inl (Fi_parts s0).2)), ((ad0 3), .inl (cA 0, (Fi_nextParts s0).1, .inl (Fi_nextParts s0).2)), ((ad15 0), .inl (cA 0, o11.1, .inl o11.2))]) (st' := [.ref (ad15 0), .ref (ob0 0)]) rfl rfl ?_
  refine x_put (ws' := [((ob0 0), .inr (0, [.ref (ad0 0), .ref (ad0 1), .int (Fi_used s0), .ref (ad15 0), .ref (ad0 3), .int (Fi_nextUsed s0)])), ((ad0 0), .inl (cA 0, (Fi_features s0).1, .inl (Fi_features s0).2)), ((ad0 1), .inl (cA 0, (Fi_parts s0).1, .inl (Fi_parts s0).2)), ((ad0 3), .inl (cA 0, (Fi_nextParts s0).1, .inl (Fi_nextParts s0).2)), ((ad15 0), .inl (cA 0, o11.1, .inl o11.2))]) F ck_Fi hin_Fi 0 3 rfl (by decide) kw_81 rfl rfl rfl rfl (Nat.le_of_ble_eq_true rfl) rfl d_Fi_beginMove_12 ?_
  refine x_aload_n F d_Fi_beginMove_15 0 rfl rfl ?_
  refine x_aload_n F d_Fi_beginMove_16 0 rfl rfl ?_
  refine x_get F ck_Fi hin_Fi 0 4 rfl (by decide) kw_82 rfl rfl d_Fi_beginMove_17 ?_
  refine x_aload_n F d_Fi_beginMove_20 0 rfl rfl ?_
  refine x_get F ck_Fi hin_Fi 0 2 rfl (by decide) kw_78 rfl rfl d_Fi_beginMove_21 ?_
  replace hm := xm_b_some hm
  obtain ⟨o16, k17, k18, h19, hm, c_o16, d_o16⟩ := hm
  refine x_callSN (n := 2) (host := "TreeStore") (wr := [((ob0 0), .inr (0, [.ref (ad0 0), .ref (ad0 1), .int (Fi_used s0), .ref (ad15 0), .ref (ad0 3), .int (Fi_nextUsed s0)])), ((ad0 0), .inl (cA 0, (Fi_features s0).1, .inl (Fi_features s0).2)), ((ad0 1), .inl (cA 0, (Fi_parts s0).1, .inl (Fi_parts s0).2)), ((ad15 0), .inl (cA 0, o11.1, .inl o11.2))]) F (c_Ts_withRoom l D cA n (ad0 3) (Fi_nextParts s0) (Fi_used s0) o16 k17 h19) kw_313 kn_392 kw_39 kw_312 ⟨by decide, by decide, by decide +kernel⟩ rfl (by decide) (by decide) [3] [0, 1, 2, 4] rfl rfl (by decide) (by decide) (by decide) rfl (Nat.le_of_ble_eq_true rfl) (by omega) (by omega) d_Fi_beginMove_24 (fun ad20 => ?_)
  refine x_nf (ws' := [((ob0 0), .inr (0, [.ref (ad0 0), .ref (ad0 1), .int (Fi_used s0), .ref (ad15 0), .ref (ad0 3), .int (Fi_nextUsed s0)])), ((ad0 0), .inl (cA 0, (Fi_features s0).1, .inl (Fi_features s0).2)), ((ad0 1), .inl (cA 0, (Fi_parts s0).1, .inl (Fi_parts s0).2)), ((ad15 0), .inl (cA 0, o11.1, .inl o11.2)), ((ad20 0), .inl (cA 0, o16.1, .inl o16.2))]) (st' := [.ref (ad20 0), .ref (ob0 0)]) rfl rfl ?_
  refine x_put (ws' := [((ob0 0), .inr (0, [.ref (ad0 0), .ref (ad0 1), .int (Fi_used s0), .ref (ad15 0), .ref (ad20 0), .int (Fi_nextUsed s0)])), ((ad0 0), .inl (cA 0, (Fi_features s0).1, .inl (Fi_features s0).2)), ((ad0 1), .inl (cA 0, (Fi_parts s0).1, .inl (Fi_parts s0).2)), ((ad15 0), .inl (cA 0, o11.1, .inl o11.2)), ((ad20 0), .inl (cA 0, o16.1, .inl o16.2))]) F ck_Fi hin_Fi 0 4 rfl (by decide) kw_82 rfl rfl rfl rfl (Nat.le_of_ble_eq_true rfl) rfl d_Fi_beginMove_27 ?_
  refine x_aload_n F d_Fi_beginMove_30 0 rfl rfl ?_
  refine x_iconst (v := (0 : Int32)) F d_Fi_beginMove_31 (by decide) ?_
  refine x_put (ws' := [((ob0 0), .inr (0, [.ref (ad0 0), .ref (ad0 1), .int (Fi_used s0), .ref (ad15 0), .ref (ad20 0), .int (0 : Int32)])), ((ad0 0), .inl (cA 0, (Fi_features s0).1, .inl (Fi_features s0).2)), ((ad0 1), .inl (cA 0, (Fi_parts s0).1, .inl (Fi_parts s0).2)), ((ad15 0), .inl (cA 0, o11.1, .inl o11.2)), ((ad20 0), .inl (cA 0, o16.1, .inl o16.2))]) F ck_Fi hin_Fi 0 5 rfl (by decide) kw_83 rfl rfl rfl rfl (Nat.le_of_ble_eq_true rfl) rfl d_Fi_beginMove_32 ?_
  replace hm := xm_p_some hm
  obtain ⟨eo, c_o, d_o⟩ := hm
  subst eo
  refine x_sub [0, 1, 2, 3, 4] (by decide) ?_ (xe_v E (xa [(ad0 0), (ad0 1), (ad15 0), (ad20 0)]) (by omega) (by omega)  d_Fi_beginMove_35)
  rfl

noncomputable def L_Fi_moveOver_9 (y1 : Int32) (y2 : Int32) (y4 : Int32) (x1_ : Ar) (n i : Nat) : Int32 → S_Fi → MO (Int32 × S_Fi) := Nat.rec (motive := fun _ => Int32 → S_Fi → MO (Int32 × S_Fi)) (fun _ _ => none) (fun _ ih x5 s0 => (if y2 ≤ x5 then (xm_p ((x5, s0))) else (xm_rd (Fi_features s0) (y1 + x5) (fun v8 => (xm_wr (Fi_nextFeatures s0) (y4 + x5) v8 (fun a9 => (xm_rd (Fi_parts s0) (y1 + x5) (fun v10 => (xm_rd x1_ v10 (fun v11 => (xm_wr (Fi_nextParts s0) (y4 + x5) v11 (fun a12 => (ih (x5 + 1) ((Fi_features s0), (Fi_parts s0), (Fi_used s0), a9, a12, (Fi_nextUsed s0))))))))))))))) i
theorem L_Fi_moveOver_9_s (y1 : Int32) (y2 : Int32) (y4 : Int32) (x1_ : Ar) (n i : Nat) (x5 : Int32) (s0 : S_Fi) : L_Fi_moveOver_9 y1 y2 y4 x1_ n (i + 1) x5 s0 = (if y2 ≤ x5 then (xm_p ((x5, s0))) else (xm_rd (Fi_features s0) (y1 + x5) (fun v8 => (xm_wr (Fi_nextFeatures s0) (y4 + x5) v8 (fun a9 => (xm_rd (Fi_parts s0) (y1 + x5) (fun v10 => (xm_rd x1_ v10 (fun v11 => (xm_wr (Fi_nextParts s0) (y4 + x5) v11 (fun a12 => (L_Fi_moveOver_9 y1 y2 y4 x1_ n i (x5 + 1) ((Fi_features s0), (Fi_parts s0), (Fi_used s0), a9, a12, (Fi_nextUsed s0)))))))))))))) := rfl
noncomputable def m_Fi_moveOver (n : Nat) (s0 : S_Fi) (x1_ : Ar) (p0 : Int32) (p1 : Int32) : MO (Int32 × S_Fi) := (xm_b (L_Fi_moveOver_9 p0 p1 (Fi_nextUsed s0) x1_ n n (0 : Int32) s0) (fun o13 => (xm_p ((Fi_nextUsed s0), ((Fi_features (o13.2)), (Fi_parts (o13.2)), (Fi_used (o13.2)), (Fi_nextFeatures (o13.2)), (Fi_nextParts (o13.2)), ((Fi_nextUsed (o13.2)) + p1))))))
set_option maxHeartbeats 4000000 in
set_option maxRecDepth 100000 in
theorem wl_Fi_moveOver_9 {X : XT} {l : Launch} {D : va_G} {cA : Nat → ClassId} {mc ms : Nat} (F : XF X l D cA b_Fi_moveOver 6 (some FieldType.int) R_Fi 0 0 mc ms) (n : Nat) (ob0 : Nat → Nat) (q1 : Nat) (y1 : Int32) (y2 : Int32) (y4 : Int32) (x1_ : Ar)   : ∀ (i : Nat) (x5 : Int32) (s0 : S_Fi) (ad0 : Nat → Nat) (nc ns : Nat) (out : Int32 × S_Fi) (k : KC), L_Fi_moveOver_9 y1 y2 y4 x1_ n i x5 s0 = some (out, k) → nc + k.1 ≤ mc → ns + k.2 ≤ ms → (∀ ad : Nat → Nat, XW X 6 ((w_Fi cA ob0 ad  (out.2)) ++ ([(q1, .inl (cA 0, x1_.1, .inl x1_.2))])) (nc + k.1) (ns + k.2) 61 [(0, .ref (ob0 0)), (1, .int y1), (2, .int y2), (3, .ref q1), (4, .int y4), (5, .int (out.1))] []) → XW X 6 ((w_Fi cA ob0 ad0  s0) ++ ([(q1, .inl (cA 0, x1_.1, .inl x1_.2))])) nc ns 9 [(0, .ref (ob0 0)), (1, .int y1), (2, .int y2), (3, .ref q1), (4, .int y4), (5, .int x5)] [] := by
  intro i
  induction i with
  | zero =>
    intro x5 s0 ad0 nc ns out k hm
    replace hm : (none : MO (Int32 × S_Fi)) = some (out, k) := hm
    cases hm
  | succ i ih =>
    intro x5 s0 ad0 nc ns out k hm hc hs KX
    rw [L_Fi_moveOver_9_s] at hm
    refine x_ws (ws' := [((ob0 0), .inr (0, [.ref (ad0 0), .ref (ad0 1), .int (Fi_used s0), .ref (ad0 2), .ref (ad0 3), .int (Fi_nextUsed s0)])), ((ad0 0), .inl (cA 0, (Fi_features s0).1, .inl (Fi_features s0).2)), ((ad0 1), .inl (cA 0, (Fi_parts s0).1, .inl (Fi_parts s0).2)), ((ad0 2), .inl (cA 0, (Fi_nextFeatures s0).1, .inl (Fi_nextFeatures s0).2)), ((ad0 3), .inl (cA 0, (Fi_nextParts s0).1, .inl (Fi_nextParts s0).2)), (q1, .inl (cA 0, x1_.1, .inl x1_.2))]) rfl ?_
    refine x_iload F d_Fi_moveOver_9 5 rfl ?_
    refine x_iload_n F d_Fi_moveOver_11 2 rfl rfl ?_
    refine x_icmp_ge F 61 d_Fi_moveOver_12 (by decide) (fun c7 => ?_) (fun c7 => ?_)
    · replace hm := xm_t hm c7
      replace hm := xm_p_some hm
      obtain ⟨eo, c_o, d_o⟩ := hm
      subst eo
      refine x_sub [0, 1, 2, 3, 4, 5] (by decide) ?_ (x_lv [0, 1, 2, 3, 4, 5] ?_ (x_cs (by omega) (by omega) (KX ad0)))
      · rfl
      · rfl
    · replace hm := xm_f hm c7
      refine x_aload_n F d_Fi_moveOver_15 0 rfl rfl ?_
      refine x_get F ck_Fi hin_Fi 0 3 rfl (by decide) kw_81 rfl rfl d_Fi_moveOver_16 ?_
      refine x_iload F d_Fi_moveOver_19 4 rfl ?_
      refine x_iload F d_Fi_moveOver_21 5 rfl ?_
      refine x_iadd F d_Fi_moveOver_23 ?_
      refine x_aload_n F d_Fi_moveOver_24 0 rfl rfl ?_
      refine x_get F ck_Fi hin_Fi 0 0 rfl (by decide) kw_71 rfl rfl d_Fi_moveOver_25 ?_
      refine x_iload_n F d_Fi_moveOver_28 1 rfl rfl ?_
      refine x_iload F d_Fi_moveOver_29 5 rfl ?_
      refine x_iadd F d_Fi_moveOver_31 ?_
      replace hm := xm_rd_some hm
      obtain ⟨v8, e_v8, b_v8, hm⟩ := hm
      refine x_iald (x := (Fi_features s0)) F 1 rfl e_v8 b_v8 d_Fi_moveOver_32 ?_
      replace hm := xm_wr_some hm
      obtain ⟨a9, e_a9, b_a9, hm⟩ := hm
      refine x_iast (x := (Fi_nextFeatures s0)) (x' := a9) (ws' := [((ob0 0), .inr (0, [.ref (ad0 0), .ref (ad0 1), .int (Fi_used s0), .ref (ad0 2), .ref (ad0 3), .int (Fi_nextUsed s0)])), ((ad0 0), .inl (cA 0, (Fi_features s0).1, .inl (Fi_features s0).2)), ((ad0 1), .inl (cA 0, (Fi_parts s0).1, .inl (Fi_parts s0).2)), ((ad0 2), .inl (cA 0, a9.1, .inl a9.2)), ((ad0 3), .inl (cA 0, (Fi_nextParts s0).1, .inl (Fi_nextParts s0).2)), (q1, .inl (cA 0, x1_.1, .inl x1_.2))]) F 3 rfl e_a9 b_a9 rfl d_Fi_moveOver_33 ?_
      refine x_aload_n F d_Fi_moveOver_34 0 rfl rfl ?_
      refine x_get F ck_Fi hin_Fi 0 4 rfl (by decide) kw_82 rfl rfl d_Fi_moveOver_35 ?_
      refine x_iload F d_Fi_moveOver_38 4 rfl ?_
      refine x_iload F d_Fi_moveOver_40 5 rfl ?_
      refine x_iadd F d_Fi_moveOver_42 ?_
      refine x_aload_n F d_Fi_moveOver_43 3 rfl rfl ?_
      refine x_aload_n F d_Fi_moveOver_44 0 rfl rfl ?_
      refine x_get F ck_Fi hin_Fi 0 1 rfl (by decide) kw_74 rfl rfl d_Fi_moveOver_45 ?_
      refine x_iload_n F d_Fi_moveOver_48 1 rfl rfl ?_
      refine x_iload F d_Fi_moveOver_49 5 rfl ?_
      refine x_iadd F d_Fi_moveOver_51 ?_
      replace hm := xm_rd_some hm
      obtain ⟨v10, e_v10, b_v10, hm⟩ := hm
      refine x_iald (x := (Fi_parts s0)) F 2 rfl e_v10 b_v10 d_Fi_moveOver_52 ?_
      replace hm := xm_rd_some hm
      obtain ⟨v11, e_v11, b_v11, hm⟩ := hm
      refine x_iald (x := x1_) F 5 rfl e_v11 b_v11 d_Fi_moveOver_53 ?_
      replace hm := xm_wr_some hm
      obtain ⟨a12, e_a12, b_a12, hm⟩ := hm
      refine x_iast (x := (Fi_nextParts s0)) (x' := a12) (ws' := [((ob0 0), .inr (0, [.ref (ad0 0), .ref (ad0 1), .int (Fi_used s0), .ref (ad0 2), .ref (ad0 3), .int (Fi_nextUsed s0)])), ((ad0 0), .inl (cA 0, (Fi_features s0).1, .inl (Fi_features s0).2)), ((ad0 1), .inl (cA 0, (Fi_parts s0).1, .inl (Fi_parts s0).2)), ((ad0 2), .inl (cA 0, a9.1, .inl a9.2)), ((ad0 3), .inl (cA 0, a12.1, .inl a12.2)), (q1, .inl (cA 0, x1_.1, .inl x1_.2))]) F 4 rfl e_a12 b_a12 rfl d_Fi_moveOver_54 ?_
      refine x_iinc (v := (x5 + 1)) (lv' := [(5, .int (x5 + 1)), (0, .ref (ob0 0)), (1, .int y1), (2, .int y2), (3, .ref q1), (4, .int y4)]) F d_Fi_moveOver_55 5 rfl rfl (by decide) rfl ?_
      refine x_goto F 9 d_Fi_moveOver_58 (by decide) ?_
      refine x_sub [0, 1, 2, 3, 4, 5] (by decide) ?_ (x_lv [1, 2, 3, 4, 5, 0] ?_ (ih (x5 + 1) ((Fi_features s0), (Fi_parts s0), (Fi_used s0), a9, a12, (Fi_nextUsed s0)) ad0 _ _ out k hm (by omega) (by omega) (fun ad => x_cs (by omega) (by omega) (KX ad))))
      · rfl
      · rfl
set_option maxHeartbeats 4000000 in
set_option maxRecDepth 100000 in
theorem c_Fi_moveOver (l : Launch) (D : va_G) (cA : Nat → ClassId) (n : Nat) (ob0 ad0 : Nat → Nat) (s0 : S_Fi) (q1 : Nat) (x1_ : Ar) (p0 : Int32) (p1 : Int32) (out : Int32 × S_Fi) (k : KC) (hm : m_Fi_moveOver n s0 x1_ p0 p1 = some (out, k)) : XM l D cA y_Fi_moveOver b_Fi_moveOver 6 (some FieldType.int) 0 0 [.ref (ob0 0), .int p0, .int p1, .ref q1] ((w_Fi cA ob0 ad0  s0) ++ ([(q1, .inl (cA 0, x1_.1, .inl x1_.2))])) k (fun _ => some (.int (out.1))) (fun ad => (w_Fi cA ob0 ad  (out.2)) ++ ([(q1, .inl (cA 0, x1_.1, .inl x1_.2))])) := by
  refine x_met (cc := b_Fi_moveOver) (nL := 6) (ret := (some FieldType.int)) R_Fi (by decide) (Nat.le_of_ble_eq_true rfl) rfl (fun X F I E => ?_)
  unfold m_Fi_moveOver at hm
  refine x_nf2 (ws' := [((ob0 0), .inr (0, [.ref (ad0 0), .ref (ad0 1), .int (Fi_used s0), .ref (ad0 2), .ref (ad0 3), .int (Fi_nextUsed s0)])), ((ad0 0), .inl (cA 0, (Fi_features s0).1, .inl (Fi_features s0).2)), ((ad0 1), .inl (cA 0, (Fi_parts s0).1, .inl (Fi_parts s0).2)), ((ad0 2), .inl (cA 0, (Fi_nextFeatures s0).1, .inl (Fi_nextFeatures s0).2)), ((ad0 3), .inl (cA 0, (Fi_nextParts s0).1, .inl (Fi_nextParts s0).2)), (q1, .inl (cA 0, x1_.1, .inl x1_.2))]) (lv' := [(0, .ref (ob0 0)), (1, .int p0), (2, .int p1), (3, .ref q1)]) rfl rfl ?_
  refine x_aload_n F d_Fi_moveOver_0 0 rfl rfl ?_
  refine x_get F ck_Fi hin_Fi 0 5 rfl (by decide) kw_83 rfl rfl d_Fi_moveOver_1 ?_
  refine x_istore (lv' := [(4, .int (Fi_nextUsed s0)), (0, .ref (ob0 0)), (1, .int p0), (2, .int p1), (3, .ref q1)]) F d_Fi_moveOver_4 (by decide) rfl ?_
  refine x_iconst (v := (0 : Int32)) F d_Fi_moveOver_6 (by decide) ?_
  refine x_istore (lv' := [(5, .int (0 : Int32)), (4, .int (Fi_nextUsed s0)), (0, .ref (ob0 0)), (1, .int p0), (2, .int p1), (3, .ref q1)]) F d_Fi_moveOver_7 (by decide) rfl ?_
  replace hm := xm_b_some hm
  obtain ⟨o13, k14, k15, h16, hm, c_o13, d_o13⟩ := hm
  refine x_sub [0, 1, 2, 3, 4, 5] (by decide) ?_ (x_lv [2, 3, 4, 5, 1, 0] ?_ (wl_Fi_moveOver_9 F n ob0 q1 p0 p1 (Fi_nextUsed s0) x1_  n (0 : Int32) s0 ad0 _ _ o13 k14 h16 (by omega) (by omega) (fun ad17 => ?_)))
  · rfl
  · rfl
  refine x_nf2 (ws' := [((ob0 0), .inr (0, [.ref (ad17 0), .ref (ad17 1), .int (Fi_used (o13.2)), .ref (ad17 2), .ref (ad17 3), .int (Fi_nextUsed (o13.2))])), ((ad17 0), .inl (cA 0, (Fi_features (o13.2)).1, .inl (Fi_features (o13.2)).2)), ((ad17 1), .inl (cA 0, (Fi_parts (o13.2)).1, .inl (Fi_parts (o13.2)).2)), ((ad17 2), .inl (cA 0, (Fi_nextFeatures (o13.2)).1, .inl (Fi_nextFeatures (o13.2)).2)), ((ad17 3), .inl (cA 0, (Fi_nextParts (o13.2)).1, .inl (Fi_nextParts (o13.2)).2)), (q1, .inl (cA 0, x1_.1, .inl x1_.2))]) (lv' := [(0, .ref (ob0 0)), (1, .int p0), (2, .int p1), (3, .ref q1), (4, .int (Fi_nextUsed s0)), (5, .int (o13.1))]) rfl rfl ?_
  refine x_aload_n F d_Fi_moveOver_61 0 rfl rfl ?_
  refine x_dup F d_Fi_moveOver_62 rfl ?_
  refine x_get F ck_Fi hin_Fi 0 5 rfl (by decide) kw_83 rfl rfl d_Fi_moveOver_63 ?_
  refine x_iload_n F d_Fi_moveOver_66 2 rfl rfl ?_
  refine x_iadd F d_Fi_moveOver_67 ?_
  refine x_put (ws' := [((ob0 0), .inr (0, [.ref (ad17 0), .ref (ad17 1), .int (Fi_used (o13.2)), .ref (ad17 2), .ref (ad17 3), .int ((Fi_nextUsed (o13.2)) + p1)])), ((ad17 0), .inl (cA 0, (Fi_features (o13.2)).1, .inl (Fi_features (o13.2)).2)), ((ad17 1), .inl (cA 0, (Fi_parts (o13.2)).1, .inl (Fi_parts (o13.2)).2)), ((ad17 2), .inl (cA 0, (Fi_nextFeatures (o13.2)).1, .inl (Fi_nextFeatures (o13.2)).2)), ((ad17 3), .inl (cA 0, (Fi_nextParts (o13.2)).1, .inl (Fi_nextParts (o13.2)).2)), (q1, .inl (cA 0, x1_.1, .inl x1_.2))]) F ck_Fi hin_Fi 0 5 rfl (by decide) kw_83 rfl rfl rfl rfl (Nat.le_of_ble_eq_true rfl) rfl d_Fi_moveOver_68 ?_
  refine x_iload F d_Fi_moveOver_71 4 rfl ?_
  replace hm := xm_p_some hm
  obtain ⟨eo, c_o, d_o⟩ := hm
  subst eo
  refine x_sub [0, 1, 2, 3, 4, 5] (by decide) ?_ (xe_i E ad17 (by omega) (by omega) rfl (xz_i _) d_Fi_moveOver_73)
  rfl

noncomputable def m_Fi_endMove (n : Nat) (s0 : S_Fi)  : MO (S_Fi) := (xm_p ((Fi_nextFeatures s0), (Fi_nextParts s0), (Fi_nextUsed s0), (Fi_features s0), (Fi_parts s0), (Fi_nextUsed s0)))
set_option maxHeartbeats 4000000 in
set_option maxRecDepth 100000 in
theorem c_Fi_endMove (l : Launch) (D : va_G) (cA : Nat → ClassId) (n : Nat) (ob0 ad0 : Nat → Nat) (s0 : S_Fi)  (out : S_Fi) (k : KC) (hm : m_Fi_endMove n s0  = some (out, k)) : XM l D cA y_Fi_endMove b_Fi_endMove 3 none 0 0 [.ref (ob0 0)] ((w_Fi cA ob0 ad0  s0)) k (fun _ => none) (fun ad => (w_Fi cA ob0 ad  out)) := by
  refine x_met (cc := b_Fi_endMove) (nL := 3) (ret := none) R_Fi (by decide) (Nat.le_of_ble_eq_true rfl) rfl (fun X F I E => ?_)
  unfold m_Fi_endMove at hm
  refine x_nf2 (ws' := [((ob0 0), .inr (0, [.ref (ad0 0), .ref (ad0 1), .int (Fi_used s0), .ref (ad0 2), .ref (ad0 3), .int (Fi_nextUsed s0)])), ((ad0 0), .inl (cA 0, (Fi_features s0).1, .inl (Fi_features s0).2)), ((ad0 1), .inl (cA 0, (Fi_parts s0).1, .inl (Fi_parts s0).2)), ((ad0 2), .inl (cA 0, (Fi_nextFeatures s0).1, .inl (Fi_nextFeatures s0).2)), ((ad0 3), .inl (cA 0, (Fi_nextParts s0).1, .inl (Fi_nextParts s0).2))]) (lv' := [(0, .ref (ob0 0))]) rfl rfl ?_
  refine x_aload_n F d_Fi_endMove_0 0 rfl rfl ?_
  refine x_get F ck_Fi hin_Fi 0 0 rfl (by decide) kw_71 rfl rfl d_Fi_endMove_1 ?_
  refine x_astore_n (lv' := [(1, .ref (ad0 0)), (0, .ref (ob0 0))]) F d_Fi_endMove_4 rfl (by decide) rfl ?_
  refine x_aload_n F d_Fi_endMove_5 1 rfl rfl ?_
  refine x_get F ck_Fi hin_Fi 0 1 rfl (by decide) kw_74 rfl rfl d_Fi_endMove_6 ?_
  refine x_astore_n (lv' := [(2, .ref (ad0 1)), (1, .ref (ad0 0)), (0, .ref (ob0 0))]) F d_Fi_endMove_9 rfl (by decide) rfl ?_
  refine x_aload_n F d_Fi_endMove_10 2 rfl rfl ?_
  refine x_aload_n F d_Fi_endMove_11 2 rfl rfl ?_
  refine x_get F ck_Fi hin_Fi 0 3 rfl (by decide) kw_81 rfl rfl d_Fi_endMove_12 ?_
  refine x_put (ws' := [((ob0 0), .inr (0, [.ref (ad0 2), .ref (ad0 1), .int (Fi_used s0), .ref (ad0 2), .ref (ad0 3), .int (Fi_nextUsed s0)])), ((ad0 0), .inl (cA 0, (Fi_features s0).1, .inl (Fi_features s0).2)), ((ad0 1), .inl (cA 0, (Fi_parts s0).1, .inl (Fi_parts s0).2)), ((ad0 2), .inl (cA 0, (Fi_nextFeatures s0).1, .inl (Fi_nextFeatures s0).2)), ((ad0 3), .inl (cA 0, (Fi_nextParts s0).1, .inl (Fi_nextParts s0).2))]) F ck_Fi hin_Fi 0 0 rfl (by decide) kw_71 rfl rfl rfl rfl (Nat.le_of_ble_eq_true rfl) rfl d_Fi_endMove_15 ?_
  refine x_aload_n F d_Fi_endMove_18 2 rfl rfl ?_
  refine x_aload_n F d_Fi_endMove_19 2 rfl rfl ?_
  refine x_get F ck_Fi hin_Fi 0 4 rfl (by decide) kw_82 rfl rfl d_Fi_endMove_20 ?_
  refine x_put (ws' := [((ob0 0), .inr (0, [.ref (ad0 2), .ref (ad0 3), .int (Fi_used s0), .ref (ad0 2), .ref (ad0 3), .int (Fi_nextUsed s0)])), ((ad0 0), .inl (cA 0, (Fi_features s0).1, .inl (Fi_features s0).2)), ((ad0 1), .inl (cA 0, (Fi_parts s0).1, .inl (Fi_parts s0).2)), ((ad0 2), .inl (cA 0, (Fi_nextFeatures s0).1, .inl (Fi_nextFeatures s0).2)), ((ad0 3), .inl (cA 0, (Fi_nextParts s0).1, .inl (Fi_nextParts s0).2))]) F ck_Fi hin_Fi 0 1 rfl (by decide) kw_74 rfl rfl rfl rfl (Nat.le_of_ble_eq_true rfl) rfl d_Fi_endMove_23 ?_
  refine x_aload_n F d_Fi_endMove_26 2 rfl rfl ?_
  refine x_aload_n F d_Fi_endMove_27 2 rfl rfl ?_
  refine x_get F ck_Fi hin_Fi 0 5 rfl (by decide) kw_83 rfl rfl d_Fi_endMove_28 ?_
  refine x_put (ws' := [((ob0 0), .inr (0, [.ref (ad0 2), .ref (ad0 3), .int (Fi_nextUsed s0), .ref (ad0 2), .ref (ad0 3), .int (Fi_nextUsed s0)])), ((ad0 0), .inl (cA 0, (Fi_features s0).1, .inl (Fi_features s0).2)), ((ad0 1), .inl (cA 0, (Fi_parts s0).1, .inl (Fi_parts s0).2)), ((ad0 2), .inl (cA 0, (Fi_nextFeatures s0).1, .inl (Fi_nextFeatures s0).2)), ((ad0 3), .inl (cA 0, (Fi_nextParts s0).1, .inl (Fi_nextParts s0).2))]) F ck_Fi hin_Fi 0 2 rfl (by decide) kw_78 rfl rfl rfl rfl (Nat.le_of_ble_eq_true rfl) rfl d_Fi_endMove_31 ?_
  refine x_aload_n F d_Fi_endMove_34 2 rfl rfl ?_
  refine x_aload_n F d_Fi_endMove_35 1 rfl rfl ?_
  refine x_put (ws' := [((ob0 0), .inr (0, [.ref (ad0 2), .ref (ad0 3), .int (Fi_nextUsed s0), .ref (ad0 0), .ref (ad0 3), .int (Fi_nextUsed s0)])), ((ad0 0), .inl (cA 0, (Fi_features s0).1, .inl (Fi_features s0).2)), ((ad0 1), .inl (cA 0, (Fi_parts s0).1, .inl (Fi_parts s0).2)), ((ad0 2), .inl (cA 0, (Fi_nextFeatures s0).1, .inl (Fi_nextFeatures s0).2)), ((ad0 3), .inl (cA 0, (Fi_nextParts s0).1, .inl (Fi_nextParts s0).2))]) F ck_Fi hin_Fi 0 3 rfl (by decide) kw_81 rfl rfl rfl rfl (Nat.le_of_ble_eq_true rfl) rfl d_Fi_endMove_36 ?_
  refine x_aload_n F d_Fi_endMove_39 2 rfl rfl ?_
  refine x_aload_n F d_Fi_endMove_40 0 rfl rfl ?_
  refine x_put (ws' := [((ob0 0), .inr (0, [.ref (ad0 2), .ref (ad0 3), .int (Fi_nextUsed s0), .ref (ad0 0), .ref (ad0 1), .int (Fi_nextUsed s0)])), ((ad0 0), .inl (cA 0, (Fi_features s0).1, .inl (Fi_features s0).2)), ((ad0 1), .inl (cA 0, (Fi_parts s0).1, .inl (Fi_parts s0).2)), ((ad0 2), .inl (cA 0, (Fi_nextFeatures s0).1, .inl (Fi_nextFeatures s0).2)), ((ad0 3), .inl (cA 0, (Fi_nextParts s0).1, .inl (Fi_nextParts s0).2))]) F ck_Fi hin_Fi 0 4 rfl (by decide) kw_82 rfl rfl rfl rfl (Nat.le_of_ble_eq_true rfl) rfl d_Fi_endMove_41 ?_
  replace hm := xm_p_some hm
  obtain ⟨eo, c_o, d_o⟩ := hm
  subst eo
  refine x_sub [0, 3, 4, 1, 2] (by decide) ?_ (xe_v E (xa [(ad0 2), (ad0 3), (ad0 0), (ad0 1)]) (by omega) (by omega)  d_Fi_endMove_44)
  rfl
