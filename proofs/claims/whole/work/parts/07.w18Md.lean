noncomputable def L_Md_go_69 (y1 : Int32) (y2 : Int32) (s0 : S_Md) (n i : Nat) : Int32 → Int32 → MO (Int32 × Int32) := Nat.rec (motive := fun _ => Int32 → Int32 → MO (Int32 × Int32)) (fun _ _ => none) (fun _ ih x3 x4 => (xm_rd (Md_manies s0) y1 (fun v24 => (if v24 ≤ x4 then (xm_p ((x3, x4))) else (if x3 = 0 then (xm_p ((x3, x4))) else (xm_rd (Md_firsts s0) y1 (fun v27 => (xm_rd (Md_features s0) (v27 + x4) (fun v28 => (xm_rd (Md_firsts s0) y2 (fun v29 => (xm_rd (Md_features s0) (v29 + x4) (fun v30 => (if v28 = v30 then (ih (1 : Int32) (x4 + 1)) else (ih (0 : Int32) (x4 + 1)))))))))))))))) i
theorem L_Md_go_69_s (y1 : Int32) (y2 : Int32) (s0 : S_Md) (n i : Nat) (x3 : Int32) (x4 : Int32) : L_Md_go_69 y1 y2 s0 n (i + 1) x3 x4 = (xm_rd (Md_manies s0) y1 (fun v24 => (if v24 ≤ x4 then (xm_p ((x3, x4))) else (if x3 = 0 then (xm_p ((x3, x4))) else (xm_rd (Md_firsts s0) y1 (fun v27 => (xm_rd (Md_features s0) (v27 + x4) (fun v28 => (xm_rd (Md_firsts s0) y2 (fun v29 => (xm_rd (Md_features s0) (v29 + x4) (fun v30 => (if v28 = v30 then (L_Md_go_69 y1 y2 s0 n i (1 : Int32) (x4 + 1)) else (L_Md_go_69 y1 y2 s0 n i (0 : Int32) (x4 + 1))))))))))))))) := rfl
noncomputable def m_Md_go (n : Nat) (s0 : S_Md) (p0 : Int32) (p1 : Int32) : MO (Int32) := (xm_rd (Md_kinds s0) p0 (fun v21 => (xm_rd (Md_kinds s0) p1 (fun v22 => (if v21 = v22 then (xm_rd (Md_values s0) p0 (fun v37 => (xm_rd (Md_values s0) p1 (fun v38 => (if v37 = v38 then (xm_rd (Md_manies s0) p0 (fun v45 => (xm_rd (Md_manies s0) p1 (fun v46 => (if v45 = v46 then (xm_rd (Md_kinds s0) p0 (fun v53 => (if v53 = (4 : Int32) then (if p0 = p1 then (xm_b (L_Md_go_69 p0 p1 s0 n n (1 : Int32) (0 : Int32)) (fun o66 => (xm_z (o66.1) (xm_p (o66.1))))) else (xm_b (L_Md_go_69 p0 p1 s0 n n (0 : Int32) (0 : Int32)) (fun o61 => (xm_z (o61.1) (xm_p (o61.1)))))) else (xm_b (L_Md_go_69 p0 p1 s0 n n (1 : Int32) (0 : Int32)) (fun o55 => (xm_z (o55.1) (xm_p (o55.1)))))))) else (xm_b (L_Md_go_69 p0 p1 s0 n n (0 : Int32) (0 : Int32)) (fun o48 => (xm_z (o48.1) (xm_p (o48.1)))))))))) else (xm_b (L_Md_go_69 p0 p1 s0 n n (0 : Int32) (0 : Int32)) (fun o40 => (xm_z (o40.1) (xm_p (o40.1)))))))))) else (xm_b (L_Md_go_69 p0 p1 s0 n n (0 : Int32) (0 : Int32)) (fun o32 => (xm_z (o32.1) (xm_p (o32.1))))))))))
set_option maxHeartbeats 4000000 in
set_option maxRecDepth 100000 in
theorem wl_Md_go_69 {X : XT} {l : Launch} {D : va_G} {cA : Nat → ClassId} {mc ms : Nat} (F : XF X l D cA b_Md_go 5 (some FieldType.boolean) R_Md 0 0 mc ms) (n : Nat) (ob0 : Nat → Nat) (y1 : Int32) (y2 : Int32) (s0 : S_Md) (ad0 : Nat → Nat) : ∀ (i : Nat) (x3 : Int32) (x4 : Int32)  (nc ns : Nat) (out : Int32 × Int32) (k : KC), L_Md_go_69 y1 y2 s0 n i x3 x4 = some (out, k) → nc + k.1 ≤ mc → ns + k.2 ≤ ms → (∀ ad : Nat → Nat, XW X 5 ((w_Md cA ob0 ad0  s0)) (nc + k.1) (ns + k.2) 127 [(0, .ref (ob0 0)), (1, .int y1), (2, .int y2), (3, .int (out.1)), (4, .int (out.2))] []) → XW X 5 ((w_Md cA ob0 ad0  s0)) nc ns 69 [(0, .ref (ob0 0)), (1, .int y1), (2, .int y2), (3, .int x3), (4, .int x4)] [] := by
  intro i
  induction i with
  | zero =>
    intro x3 x4  nc ns out k hm
    replace hm : (none : MO (Int32 × Int32)) = some (out, k) := hm
    cases hm
  | succ i ih =>
    intro x3 x4  nc ns out k hm hc hs KX
    rw [L_Md_go_69_s] at hm
    refine x_ws (ws' := [((ob0 0), .inr (8, [.ref (ob0 1), .ref (ob0 2), .ref (ob0 3), .ref (ob0 4), .ref (ob0 5), .ref (ob0 6), .ref (ob0 7), .ref (ob0 8), .ref (ob0 9), .int (Md_end s0), .int (Md_nodes s0), .ref (ob0 10), .ref (ob0 11), .int (Md_fields s0), .ref (ob0 12), .ref (ob0 13), .int (Md_pushed s0), .ref (ob0 14), .int (Md_touches s0), .ref (ob0 15), .ref (ob0 16), .ref (ob0 17), .ref (ob0 18), .ref (ad0 0), .ref (ad0 1), .int (Md_length s0)])), ((ob0 1), .inl (cA 1, (Md_kinds s0).1, .inl (Md_kinds s0).2)), ((ob0 2), .inl (cA 0, (Md_values s0).1, .inl (Md_values s0).2)), ((ob0 3), .inl (cA 0, (Md_firsts s0).1, .inl (Md_firsts s0).2)), ((ob0 4), .inl (cA 0, (Md_manies s0).1, .inl (Md_manies s0).2)), ((ob0 5), .inl (cA 2, (Md_said s0).1, .inl (Md_said s0).2)), ((ob0 6), .inl (cA 2, (Md_marked s0).1, .inl (Md_marked s0).2)), ((ob0 7), .inl (cA 0, (Md_leaders s0).1, .inl (Md_leaders s0).2)), ((ob0 8), .inl (cA 0, (Md_trial s0).1, .inl (Md_trial s0).2)), ((ob0 9), .inl (cA 0, (Md_shown s0).1, .inl (Md_shown s0).2)), ((ob0 10), .inl (cA 0, (Md_features s0).1, .inl (Md_features s0).2)), ((ob0 11), .inl (cA 0, (Md_parts s0).1, .inl (Md_parts s0).2)), ((ob0 12), .inl (cA 0, (Md_pushedFeatures s0).1, .inl (Md_pushedFeatures s0).2)), ((ob0 13), .inl (cA 0, (Md_pushedParts s0).1, .inl (Md_pushedParts s0).2)), ((ob0 14), .inl (cA 0, (Md_touched s0).1, .inl (Md_touched s0).2)), ((ob0 15), .inl (cA 0, (Md_reached s0).1, .inl (Md_reached s0).2)), ((ob0 16), .inl (cA 0, (Md_blocks s0).1, .inl (Md_blocks s0).2)), ((ob0 17), .inl (cA 0, (Md_newBlocks s0).1, .inl (Md_newBlocks s0).2)), ((ob0 18), .inl (cA 0, (Md_places s0).1, .inl (Md_places s0).2)), ((ad0 0), .inl (cA 0, (Md_written s0).1, .inl (Md_written s0).2)), ((ad0 1), .inl (cA 0, (Md_other s0).1, .inl (Md_other s0).2))]) rfl ?_
    refine x_iload F d_Md_go_69 4 rfl ?_
    refine x_aload_n F d_Md_go_71 0 rfl rfl ?_
    refine x_get F ck_Md hin_Md 0 3 rfl (by decide) kw_637 rfl rfl d_Md_go_72 ?_
    refine x_iload_n F d_Md_go_75 1 rfl rfl ?_
    replace hm := xm_rd_some hm
    obtain ⟨v24, e_v24, b_v24, hm⟩ := hm
    refine x_iald (x := (Md_manies s0)) F 4 rfl e_v24 b_v24 d_Md_go_76 ?_
    refine x_icmp_ge F 127 d_Md_go_77 (by decide) (fun c25 => ?_) (fun c25 => ?_)
    · replace hm := xm_t hm c25
      replace hm := xm_p_some hm
      obtain ⟨eo, c_o, d_o⟩ := hm
      subst eo
      refine x_sub [0, 1, 2, 3, 4, 5, 6, 7, 8, 9, 10, 11, 12, 13, 14, 15, 16, 17, 18, 19, 20] (by decide) ?_ (x_lv [0, 1, 2, 3, 4] ?_ (x_cs (by omega) (by omega) (KX (fun _ => 0))))
      · rfl
      · rfl
    · replace hm := xm_f hm c25
      refine x_iload_n F d_Md_go_80 3 rfl rfl ?_
      refine x_if_eq F 127 d_Md_go_81 (by decide) (fun c26 => ?_) (fun c26 => ?_)
      · replace hm := xm_t hm c26
        replace hm := xm_p_some hm
        obtain ⟨eo, c_o, d_o⟩ := hm
        subst eo
        refine x_sub [0, 1, 2, 3, 4, 5, 6, 7, 8, 9, 10, 11, 12, 13, 14, 15, 16, 17, 18, 19, 20] (by decide) ?_ (x_lv [0, 1, 2, 3, 4] ?_ (x_cs (by omega) (by omega) (KX (fun _ => 0))))
        · rfl
        · rfl
      · replace hm := xm_f hm c26
        refine x_aload_n F d_Md_go_84 0 rfl rfl ?_
        refine x_get F ck_Md hin_Md 0 11 rfl (by decide) kw_645 rfl rfl d_Md_go_85 ?_
        refine x_aload_n F d_Md_go_88 0 rfl rfl ?_
        refine x_get F ck_Md hin_Md 0 2 rfl (by decide) kw_636 rfl rfl d_Md_go_89 ?_
        refine x_iload_n F d_Md_go_92 1 rfl rfl ?_
        replace hm := xm_rd_some hm
        obtain ⟨v27, e_v27, b_v27, hm⟩ := hm
        refine x_iald (x := (Md_firsts s0)) F 3 rfl e_v27 b_v27 d_Md_go_93 ?_
        refine x_iload F d_Md_go_94 4 rfl ?_
        refine x_iadd F d_Md_go_96 ?_
        replace hm := xm_rd_some hm
        obtain ⟨v28, e_v28, b_v28, hm⟩ := hm
        refine x_iald (x := (Md_features s0)) F 10 rfl e_v28 b_v28 d_Md_go_97 ?_
        refine x_aload_n F d_Md_go_98 0 rfl rfl ?_
        refine x_get F ck_Md hin_Md 0 11 rfl (by decide) kw_645 rfl rfl d_Md_go_99 ?_
        refine x_aload_n F d_Md_go_102 0 rfl rfl ?_
        refine x_get F ck_Md hin_Md 0 2 rfl (by decide) kw_636 rfl rfl d_Md_go_103 ?_
        refine x_iload_n F d_Md_go_106 2 rfl rfl ?_
        replace hm := xm_rd_some hm
        obtain ⟨v29, e_v29, b_v29, hm⟩ := hm
        refine x_iald (x := (Md_firsts s0)) F 3 rfl e_v29 b_v29 d_Md_go_107 ?_
        refine x_iload F d_Md_go_108 4 rfl ?_
        refine x_iadd F d_Md_go_110 ?_
        replace hm := xm_rd_some hm
        obtain ⟨v30, e_v30, b_v30, hm⟩ := hm
        refine x_iald (x := (Md_features s0)) F 10 rfl e_v30 b_v30 d_Md_go_111 ?_
        refine x_icmp_ne F 119 d_Md_go_112 (by decide) (fun c31 => ?_) (fun c31 => ?_)
        · replace hm := xm_f hm c31
          refine x_iconst (v := (0 : Int32)) F d_Md_go_119 (by decide) ?_
          refine x_istore_n (lv' := [(3, .int (0 : Int32)), (0, .ref (ob0 0)), (1, .int y1), (2, .int y2), (4, .int x4)]) F d_Md_go_120 rfl (by decide) rfl ?_
          refine x_iinc (v := (x4 + 1)) (lv' := [(4, .int (x4 + 1)), (3, .int (0 : Int32)), (0, .ref (ob0 0)), (1, .int y1), (2, .int y2)]) F d_Md_go_121 4 rfl rfl (by decide) rfl ?_
          refine x_goto F 69 d_Md_go_124 (by decide) ?_
          refine x_sub [0, 1, 2, 3, 4, 5, 6, 7, 8, 9, 10, 11, 12, 13, 14, 15, 16, 17, 18, 19, 20] (by decide) ?_ (x_lv [2, 3, 4, 1, 0] ?_ (ih (0 : Int32) (x4 + 1)  _ _ out k hm (by omega) (by omega) (fun ad => x_cs (by omega) (by omega) (KX ad))))
          · rfl
          · rfl
        · replace hm := xm_t hm c31
          refine x_iconst (v := (1 : Int32)) F d_Md_go_115 (by decide) ?_
          refine x_goto F 120 d_Md_go_116 (by decide) ?_
          refine x_istore_n (lv' := [(3, .int (1 : Int32)), (0, .ref (ob0 0)), (1, .int y1), (2, .int y2), (4, .int x4)]) F d_Md_go_120 rfl (by decide) rfl ?_
          refine x_iinc (v := (x4 + 1)) (lv' := [(4, .int (x4 + 1)), (3, .int (1 : Int32)), (0, .ref (ob0 0)), (1, .int y1), (2, .int y2)]) F d_Md_go_121 4 rfl rfl (by decide) rfl ?_
          refine x_goto F 69 d_Md_go_124 (by decide) ?_
          refine x_sub [0, 1, 2, 3, 4, 5, 6, 7, 8, 9, 10, 11, 12, 13, 14, 15, 16, 17, 18, 19, 20] (by decide) ?_ (x_lv [2, 3, 4, 1, 0] ?_ (ih (1 : Int32) (x4 + 1)  _ _ out k hm (by omega) (by omega) (fun ad => x_cs (by omega) (by omega) (KX ad))))
          · rfl
          · rfl
set_option maxHeartbeats 4000000 in
set_option maxRecDepth 100000 in
theorem c_Md_go (l : Launch) (D : va_G) (cA : Nat → ClassId) (n : Nat) (ob0 ad0 : Nat → Nat) (s0 : S_Md) (p0 : Int32) (p1 : Int32) (out : Int32) (k : KC) (hm : m_Md_go n s0 p0 p1 = some (out, k)) : XM l D cA y_Md_go b_Md_go 5 (some FieldType.boolean) 0 0 [.ref (ob0 0), .int p0, .int p1] ((w_Md cA ob0 ad0  s0)) k (fun _ => some (.int out)) (fun ad => (w_Md cA ob0 ad0  s0)) := by
  refine x_met (cc := b_Md_go) (nL := 5) (ret := (some FieldType.boolean)) R_Md (by decide) (Nat.le_of_ble_eq_true rfl) rfl (fun X F I E => ?_)
  unfold m_Md_go at hm
  refine x_nf2 (ws' := [((ob0 0), .inr (8, [.ref (ob0 1), .ref (ob0 2), .ref (ob0 3), .ref (ob0 4), .ref (ob0 5), .ref (ob0 6), .ref (ob0 7), .ref (ob0 8), .ref (ob0 9), .int (Md_end s0), .int (Md_nodes s0), .ref (ob0 10), .ref (ob0 11), .int (Md_fields s0), .ref (ob0 12), .ref (ob0 13), .int (Md_pushed s0), .ref (ob0 14), .int (Md_touches s0), .ref (ob0 15), .ref (ob0 16), .ref (ob0 17), .ref (ob0 18), .ref (ad0 0), .ref (ad0 1), .int (Md_length s0)])), ((ob0 1), .inl (cA 1, (Md_kinds s0).1, .inl (Md_kinds s0).2)), ((ob0 2), .inl (cA 0, (Md_values s0).1, .inl (Md_values s0).2)), ((ob0 3), .inl (cA 0, (Md_firsts s0).1, .inl (Md_firsts s0).2)), ((ob0 4), .inl (cA 0, (Md_manies s0).1, .inl (Md_manies s0).2)), ((ob0 5), .inl (cA 2, (Md_said s0).1, .inl (Md_said s0).2)), ((ob0 6), .inl (cA 2, (Md_marked s0).1, .inl (Md_marked s0).2)), ((ob0 7), .inl (cA 0, (Md_leaders s0).1, .inl (Md_leaders s0).2)), ((ob0 8), .inl (cA 0, (Md_trial s0).1, .inl (Md_trial s0).2)), ((ob0 9), .inl (cA 0, (Md_shown s0).1, .inl (Md_shown s0).2)), ((ob0 10), .inl (cA 0, (Md_features s0).1, .inl (Md_features s0).2)), ((ob0 11), .inl (cA 0, (Md_parts s0).1, .inl (Md_parts s0).2)), ((ob0 12), .inl (cA 0, (Md_pushedFeatures s0).1, .inl (Md_pushedFeatures s0).2)), ((ob0 13), .inl (cA 0, (Md_pushedParts s0).1, .inl (Md_pushedParts s0).2)), ((ob0 14), .inl (cA 0, (Md_touched s0).1, .inl (Md_touched s0).2)), ((ob0 15), .inl (cA 0, (Md_reached s0).1, .inl (Md_reached s0).2)), ((ob0 16), .inl (cA 0, (Md_blocks s0).1, .inl (Md_blocks s0).2)), ((ob0 17), .inl (cA 0, (Md_newBlocks s0).1, .inl (Md_newBlocks s0).2)), ((ob0 18), .inl (cA 0, (Md_places s0).1, .inl (Md_places s0).2)), ((ad0 0), .inl (cA 0, (Md_written s0).1, .inl (Md_written s0).2)), ((ad0 1), .inl (cA 0, (Md_other s0).1, .inl (Md_other s0).2))]) (lv' := [(0, .ref (ob0 0)), (1, .int p0), (2, .int p1)]) rfl rfl ?_
  refine x_aload_n F d_Md_go_0 0 rfl rfl ?_
  refine x_get F ck_Md hin_Md 0 0 rfl (by decide) kw_634 rfl rfl d_Md_go_1 ?_
  refine x_iload_n F d_Md_go_4 1 rfl rfl ?_
  replace hm := xm_rd_some hm
  obtain ⟨v21, e_v21, b_v21, hm⟩ := hm
  refine x_bald (x := (Md_kinds s0)) F 1 rfl e_v21 b_v21 d_Md_go_5 ?_
  refine x_aload_n F d_Md_go_6 0 rfl rfl ?_
  refine x_get F ck_Md hin_Md 0 0 rfl (by decide) kw_634 rfl rfl d_Md_go_7 ?_
  refine x_iload_n F d_Md_go_10 2 rfl rfl ?_
  replace hm := xm_rd_some hm
  obtain ⟨v22, e_v22, b_v22, hm⟩ := hm
  refine x_bald (x := (Md_kinds s0)) F 1 rfl e_v22 b_v22 d_Md_go_11 ?_
  refine x_icmp_ne F 64 d_Md_go_12 (by decide) (fun c23 => ?_) (fun c23 => ?_)
  · replace hm := xm_f hm c23
    refine x_iconst (v := (0 : Int32)) F d_Md_go_64 (by decide) ?_
    refine x_istore_n (lv' := [(3, .int (0 : Int32)), (0, .ref (ob0 0)), (1, .int p0), (2, .int p1)]) F d_Md_go_65 rfl (by decide) rfl ?_
    refine x_iconst (v := (0 : Int32)) F d_Md_go_66 (by decide) ?_
    refine x_istore (lv' := [(4, .int (0 : Int32)), (3, .int (0 : Int32)), (0, .ref (ob0 0)), (1, .int p0), (2, .int p1)]) F d_Md_go_67 (by decide) rfl ?_
    replace hm := xm_b_some hm
    obtain ⟨o32, k33, k34, h35, hm, c_o32, d_o32⟩ := hm
    refine x_sub [0, 1, 2, 3, 4, 5, 6, 7, 8, 9, 10, 11, 12, 13, 14, 15, 16, 17, 18, 19, 20] (by decide) ?_ (x_lv [2, 3, 4, 1, 0] ?_ (wl_Md_go_69 F n ob0 p0 p1 s0 ad0 n (0 : Int32) (0 : Int32)  _ _ o32 k33 h35 (by omega) (by omega) (fun ad36 => ?_)))
    · rfl
    · rfl
    refine x_nf2 (ws' := [((ob0 0), .inr (8, [.ref (ob0 1), .ref (ob0 2), .ref (ob0 3), .ref (ob0 4), .ref (ob0 5), .ref (ob0 6), .ref (ob0 7), .ref (ob0 8), .ref (ob0 9), .int (Md_end s0), .int (Md_nodes s0), .ref (ob0 10), .ref (ob0 11), .int (Md_fields s0), .ref (ob0 12), .ref (ob0 13), .int (Md_pushed s0), .ref (ob0 14), .int (Md_touches s0), .ref (ob0 15), .ref (ob0 16), .ref (ob0 17), .ref (ob0 18), .ref (ad0 0), .ref (ad0 1), .int (Md_length s0)])), ((ob0 1), .inl (cA 1, (Md_kinds s0).1, .inl (Md_kinds s0).2)), ((ob0 2), .inl (cA 0, (Md_values s0).1, .inl (Md_values s0).2)), ((ob0 3), .inl (cA 0, (Md_firsts s0).1, .inl (Md_firsts s0).2)), ((ob0 4), .inl (cA 0, (Md_manies s0).1, .inl (Md_manies s0).2)), ((ob0 5), .inl (cA 2, (Md_said s0).1, .inl (Md_said s0).2)), ((ob0 6), .inl (cA 2, (Md_marked s0).1, .inl (Md_marked s0).2)), ((ob0 7), .inl (cA 0, (Md_leaders s0).1, .inl (Md_leaders s0).2)), ((ob0 8), .inl (cA 0, (Md_trial s0).1, .inl (Md_trial s0).2)), ((ob0 9), .inl (cA 0, (Md_shown s0).1, .inl (Md_shown s0).2)), ((ob0 10), .inl (cA 0, (Md_features s0).1, .inl (Md_features s0).2)), ((ob0 11), .inl (cA 0, (Md_parts s0).1, .inl (Md_parts s0).2)), ((ob0 12), .inl (cA 0, (Md_pushedFeatures s0).1, .inl (Md_pushedFeatures s0).2)), ((ob0 13), .inl (cA 0, (Md_pushedParts s0).1, .inl (Md_pushedParts s0).2)), ((ob0 14), .inl (cA 0, (Md_touched s0).1, .inl (Md_touched s0).2)), ((ob0 15), .inl (cA 0, (Md_reached s0).1, .inl (Md_reached s0).2)), ((ob0 16), .inl (cA 0, (Md_blocks s0).1, .inl (Md_blocks s0).2)), ((ob0 17), .inl (cA 0, (Md_newBlocks s0).1, .inl (Md_newBlocks s0).2)), ((ob0 18), .inl (cA 0, (Md_places s0).1, .inl (Md_places s0).2)), ((ad0 0), .inl (cA 0, (Md_written s0).1, .inl (Md_written s0).2)), ((ad0 1), .inl (cA 0, (Md_other s0).1, .inl (Md_other s0).2))]) (lv' := [(0, .ref (ob0 0)), (1, .int p0), (2, .int p1), (3, .int (o32.1)), (4, .int (o32.2))]) rfl rfl ?_
    refine x_iload_n F d_Md_go_127 3 rfl rfl ?_
    replace hm := xm_z_some hm
    obtain ⟨hz, hm⟩ := hm
    replace hm := xm_p_some hm
    obtain ⟨eo, c_o, d_o⟩ := hm
    subst eo
    refine x_sub [0, 1, 2, 3, 4, 5, 6, 7, 8, 9, 10, 11, 12, 13, 14, 15, 16, 17, 18, 19, 20] (by decide) ?_ (xe_i E (fun _ => 0) (by omega) (by omega) rfl hz d_Md_go_128)
    rfl
  · replace hm := xm_t hm c23
    refine x_aload_n F d_Md_go_15 0 rfl rfl ?_
    refine x_get F ck_Md hin_Md 0 1 rfl (by decide) kw_635 rfl rfl d_Md_go_16 ?_
    refine x_iload_n F d_Md_go_19 1 rfl rfl ?_
    replace hm := xm_rd_some hm
    obtain ⟨v37, e_v37, b_v37, hm⟩ := hm
    refine x_iald (x := (Md_values s0)) F 2 rfl e_v37 b_v37 d_Md_go_20 ?_
    refine x_aload_n F d_Md_go_21 0 rfl rfl ?_
    refine x_get F ck_Md hin_Md 0 1 rfl (by decide) kw_635 rfl rfl d_Md_go_22 ?_
    refine x_iload_n F d_Md_go_25 2 rfl rfl ?_
    replace hm := xm_rd_some hm
    obtain ⟨v38, e_v38, b_v38, hm⟩ := hm
    refine x_iald (x := (Md_values s0)) F 2 rfl e_v38 b_v38 d_Md_go_26 ?_
    refine x_icmp_ne F 64 d_Md_go_27 (by decide) (fun c39 => ?_) (fun c39 => ?_)
    · replace hm := xm_f hm c39
      refine x_iconst (v := (0 : Int32)) F d_Md_go_64 (by decide) ?_
      refine x_istore_n (lv' := [(3, .int (0 : Int32)), (0, .ref (ob0 0)), (1, .int p0), (2, .int p1)]) F d_Md_go_65 rfl (by decide) rfl ?_
      refine x_iconst (v := (0 : Int32)) F d_Md_go_66 (by decide) ?_
      refine x_istore (lv' := [(4, .int (0 : Int32)), (3, .int (0 : Int32)), (0, .ref (ob0 0)), (1, .int p0), (2, .int p1)]) F d_Md_go_67 (by decide) rfl ?_
      replace hm := xm_b_some hm
      obtain ⟨o40, k41, k42, h43, hm, c_o40, d_o40⟩ := hm
      refine x_sub [0, 1, 2, 3, 4, 5, 6, 7, 8, 9, 10, 11, 12, 13, 14, 15, 16, 17, 18, 19, 20] (by decide) ?_ (x_lv [2, 3, 4, 1, 0] ?_ (wl_Md_go_69 F n ob0 p0 p1 s0 ad0 n (0 : Int32) (0 : Int32)  _ _ o40 k41 h43 (by omega) (by omega) (fun ad44 => ?_)))
      · rfl
      · rfl
      refine x_nf2 (ws' := [((ob0 0), .inr (8, [.ref (ob0 1), .ref (ob0 2), .ref (ob0 3), .ref (ob0 4), .ref (ob0 5), .ref (ob0 6), .ref (ob0 7), .ref (ob0 8), .ref (ob0 9), .int (Md_end s0), .int (Md_nodes s0), .ref (ob0 10), .ref (ob0 11), .int (Md_fields s0), .ref (ob0 12), .ref (ob0 13), .int (Md_pushed s0), .ref (ob0 14), .int (Md_touches s0), .ref (ob0 15), .ref (ob0 16), .ref (ob0 17), .ref (ob0 18), .ref (ad0 0), .ref (ad0 1), .int (Md_length s0)])), ((ob0 1), .inl (cA 1, (Md_kinds s0).1, .inl (Md_kinds s0).2)), ((ob0 2), .inl (cA 0, (Md_values s0).1, .inl (Md_values s0).2)), ((ob0 3), .inl (cA 0, (Md_firsts s0).1, .inl (Md_firsts s0).2)), ((ob0 4), .inl (cA 0, (Md_manies s0).1, .inl (Md_manies s0).2)), ((ob0 5), .inl (cA 2, (Md_said s0).1, .inl (Md_said s0).2)), ((ob0 6), .inl (cA 2, (Md_marked s0).1, .inl (Md_marked s0).2)), ((ob0 7), .inl (cA 0, (Md_leaders s0).1, .inl (Md_leaders s0).2)), ((ob0 8), .inl (cA 0, (Md_trial s0).1, .inl (Md_trial s0).2)), ((ob0 9), .inl (cA 0, (Md_shown s0).1, .inl (Md_shown s0).2)), ((ob0 10), .inl (cA 0, (Md_features s0).1, .inl (Md_features s0).2)), ((ob0 11), .inl (cA 0, (Md_parts s0).1, .inl (Md_parts s0).2)), ((ob0 12), .inl (cA 0, (Md_pushedFeatures s0).1, .inl (Md_pushedFeatures s0).2)), ((ob0 13), .inl (cA 0, (Md_pushedParts s0).1, .inl (Md_pushedParts s0).2)), ((ob0 14), .inl (cA 0, (Md_touched s0).1, .inl (Md_touched s0).2)), ((ob0 15), .inl (cA 0, (Md_reached s0).1, .inl (Md_reached s0).2)), ((ob0 16), .inl (cA 0, (Md_blocks s0).1, .inl (Md_blocks s0).2)), ((ob0 17), .inl (cA 0, (Md_newBlocks s0).1, .inl (Md_newBlocks s0).2)), ((ob0 18), .inl (cA 0, (Md_places s0).1, .inl (Md_places s0).2)), ((ad0 0), .inl (cA 0, (Md_written s0).1, .inl (Md_written s0).2)), ((ad0 1), .inl (cA 0, (Md_other s0).1, .inl (Md_other s0).2))]) (lv' := [(0, .ref (ob0 0)), (1, .int p0), (2, .int p1), (3, .int (o40.1)), (4, .int (o40.2))]) rfl rfl ?_
      refine x_iload_n F d_Md_go_127 3 rfl rfl ?_
      replace hm := xm_z_some hm
      obtain ⟨hz, hm⟩ := hm
      replace hm := xm_p_some hm
      obtain ⟨eo, c_o, d_o⟩ := hm
      subst eo
      refine x_sub [0, 1, 2, 3, 4, 5, 6, 7, 8, 9, 10, 11, 12, 13, 14, 15, 16, 17, 18, 19, 20] (by decide) ?_ (xe_i E (fun _ => 0) (by omega) (by omega) rfl hz d_Md_go_128)
      rfl
    · replace hm := xm_t hm c39
      refine x_aload_n F d_Md_go_30 0 rfl rfl ?_
      refine x_get F ck_Md hin_Md 0 3 rfl (by decide) kw_637 rfl rfl d_Md_go_31 ?_
      refine x_iload_n F d_Md_go_34 1 rfl rfl ?_
      replace hm := xm_rd_some hm
      obtain ⟨v45, e_v45, b_v45, hm⟩ := hm
      refine x_iald (x := (Md_manies s0)) F 4 rfl e_v45 b_v45 d_Md_go_35 ?_
      refine x_aload_n F d_Md_go_36 0 rfl rfl ?_
      refine x_get F ck_Md hin_Md 0 3 rfl (by decide) kw_637 rfl rfl d_Md_go_37 ?_
      refine x_iload_n F d_Md_go_40 2 rfl rfl ?_
      replace hm := xm_rd_some hm
      obtain ⟨v46, e_v46, b_v46, hm⟩ := hm
      refine x_iald (x := (Md_manies s0)) F 4 rfl e_v46 b_v46 d_Md_go_41 ?_
      refine x_icmp_ne F 64 d_Md_go_42 (by decide) (fun c47 => ?_) (fun c47 => ?_)
      · replace hm := xm_f hm c47
        refine x_iconst (v := (0 : Int32)) F d_Md_go_64 (by decide) ?_
        refine x_istore_n (lv' := [(3, .int (0 : Int32)), (0, .ref (ob0 0)), (1, .int p0), (2, .int p1)]) F d_Md_go_65 rfl (by decide) rfl ?_
        refine x_iconst (v := (0 : Int32)) F d_Md_go_66 (by decide) ?_
        refine x_istore (lv' := [(4, .int (0 : Int32)), (3, .int (0 : Int32)), (0, .ref (ob0 0)), (1, .int p0), (2, .int p1)]) F d_Md_go_67 (by decide) rfl ?_
        replace hm := xm_b_some hm
        obtain ⟨o48, k49, k50, h51, hm, c_o48, d_o48⟩ := hm
        refine x_sub [0, 1, 2, 3, 4, 5, 6, 7, 8, 9, 10, 11, 12, 13, 14, 15, 16, 17, 18, 19, 20] (by decide) ?_ (x_lv [2, 3, 4, 1, 0] ?_ (wl_Md_go_69 F n ob0 p0 p1 s0 ad0 n (0 : Int32) (0 : Int32)  _ _ o48 k49 h51 (by omega) (by omega) (fun ad52 => ?_)))
        · rfl
        · rfl
        refine x_nf2 (ws' := [((ob0 0), .inr (8, [.ref (ob0 1), .ref (ob0 2), .ref (ob0 3), .ref (ob0 4), .ref (ob0 5), .ref (ob0 6), .ref (ob0 7), .ref (ob0 8), .ref (ob0 9), .int (Md_end s0), .int (Md_nodes s0), .ref (ob0 10), .ref (ob0 11), .int (Md_fields s0), .ref (ob0 12), .ref (ob0 13), .int (Md_pushed s0), .ref (ob0 14), .int (Md_touches s0), .ref (ob0 15), .ref (ob0 16), .ref (ob0 17), .ref (ob0 18), .ref (ad0 0), .ref (ad0 1), .int (Md_length s0)])), ((ob0 1), .inl (cA 1, (Md_kinds s0).1, .inl (Md_kinds s0).2)), ((ob0 2), .inl (cA 0, (Md_values s0).1, .inl (Md_values s0).2)), ((ob0 3), .inl (cA 0, (Md_firsts s0).1, .inl (Md_firsts s0).2)), ((ob0 4), .inl (cA 0, (Md_manies s0).1, .inl (Md_manies s0).2)), ((ob0 5), .inl (cA 2, (Md_said s0).1, .inl (Md_said s0).2)), ((ob0 6), .inl (cA 2, (Md_marked s0).1, .inl (Md_marked s0).2)), ((ob0 7), .inl (cA 0, (Md_leaders s0).1, .inl (Md_leaders s0).2)), ((ob0 8), .inl (cA 0, (Md_trial s0).1, .inl (Md_trial s0).2)), ((ob0 9), .inl (cA 0, (Md_shown s0).1, .inl (Md_shown s0).2)), ((ob0 10), .inl (cA 0, (Md_features s0).1, .inl (Md_features s0).2)), ((ob0 11), .inl (cA 0, (Md_parts s0).1, .inl (Md_parts s0).2)), ((ob0 12), .inl (cA 0, (Md_pushedFeatures s0).1, .inl (Md_pushedFeatures s0).2)), ((ob0 13), .inl (cA 0, (Md_pushedParts s0).1, .inl (Md_pushedParts s0).2)), ((ob0 14), .inl (cA 0, (Md_touched s0).1, .inl (Md_touched s0).2)), ((ob0 15), .inl (cA 0, (Md_reached s0).1, .inl (Md_reached s0).2)), ((ob0 16), .inl (cA 0, (Md_blocks s0).1, .inl (Md_blocks s0).2)), ((ob0 17), .inl (cA 0, (Md_newBlocks s0).1, .inl (Md_newBlocks s0).2)), ((ob0 18), .inl (cA 0, (Md_places s0).1, .inl (Md_places s0).2)), ((ad0 0), .inl (cA 0, (Md_written s0).1, .inl (Md_written s0).2)), ((ad0 1), .inl (cA 0, (Md_other s0).1, .inl (Md_other s0).2))]) (lv' := [(0, .ref (ob0 0)), (1, .int p0), (2, .int p1), (3, .int (o48.1)), (4, .int (o48.2))]) rfl rfl ?_
        refine x_iload_n F d_Md_go_127 3 rfl rfl ?_
        replace hm := xm_z_some hm
        obtain ⟨hz, hm⟩ := hm
        replace hm := xm_p_some hm
        obtain ⟨eo, c_o, d_o⟩ := hm
        subst eo
        refine x_sub [0, 1, 2, 3, 4, 5, 6, 7, 8, 9, 10, 11, 12, 13, 14, 15, 16, 17, 18, 19, 20] (by decide) ?_ (xe_i E (fun _ => 0) (by omega) (by omega) rfl hz d_Md_go_128)
        rfl
      · replace hm := xm_t hm c47
        refine x_aload_n F d_Md_go_45 0 rfl rfl ?_
        refine x_get F ck_Md hin_Md 0 0 rfl (by decide) kw_634 rfl rfl d_Md_go_46 ?_
        refine x_iload_n F d_Md_go_49 1 rfl rfl ?_
        replace hm := xm_rd_some hm
        obtain ⟨v53, e_v53, b_v53, hm⟩ := hm
        refine x_bald (x := (Md_kinds s0)) F 1 rfl e_v53 b_v53 d_Md_go_50 ?_
        refine x_iconst (v := (4 : Int32)) F d_Md_go_51 (by decide) ?_
        refine x_icmp_ne F 60 d_Md_go_52 (by decide) (fun c54 => ?_) (fun c54 => ?_)
        · replace hm := xm_f hm c54
          refine x_iconst (v := (1 : Int32)) F d_Md_go_60 (by decide) ?_
          refine x_goto F 65 d_Md_go_61 (by decide) ?_
          refine x_istore_n (lv' := [(3, .int (1 : Int32)), (0, .ref (ob0 0)), (1, .int p0), (2, .int p1)]) F d_Md_go_65 rfl (by decide) rfl ?_
          refine x_iconst (v := (0 : Int32)) F d_Md_go_66 (by decide) ?_
          refine x_istore (lv' := [(4, .int (0 : Int32)), (3, .int (1 : Int32)), (0, .ref (ob0 0)), (1, .int p0), (2, .int p1)]) F d_Md_go_67 (by decide) rfl ?_
          replace hm := xm_b_some hm
          obtain ⟨o55, k56, k57, h58, hm, c_o55, d_o55⟩ := hm
          refine x_sub [0, 1, 2, 3, 4, 5, 6, 7, 8, 9, 10, 11, 12, 13, 14, 15, 16, 17, 18, 19, 20] (by decide) ?_ (x_lv [2, 3, 4, 1, 0] ?_ (wl_Md_go_69 F n ob0 p0 p1 s0 ad0 n (1 : Int32) (0 : Int32)  _ _ o55 k56 h58 (by omega) (by omega) (fun ad59 => ?_)))
          · rfl
          · rfl
          refine x_nf2 (ws' := [((ob0 0), .inr (8, [.ref (ob0 1), .ref (ob0 2), .ref (ob0 3), .ref (ob0 4), .ref (ob0 5), .ref (ob0 6), .ref (ob0 7), .ref (ob0 8), .ref (ob0 9), .int (Md_end s0), .int (Md_nodes s0), .ref (ob0 10), .ref (ob0 11), .int (Md_fields s0), .ref (ob0 12), .ref (ob0 13), .int (Md_pushed s0), .ref (ob0 14), .int (Md_touches s0), .ref (ob0 15), .ref (ob0 16), .ref (ob0 17), .ref (ob0 18), .ref (ad0 0), .ref (ad0 1), .int (Md_length s0)])), ((ob0 1), .inl (cA 1, (Md_kinds s0).1, .inl (Md_kinds s0).2)), ((ob0 2), .inl (cA 0, (Md_values s0).1, .inl (Md_values s0).2)), ((ob0 3), .inl (cA 0, (Md_firsts s0).1, .inl (Md_firsts s0).2)), ((ob0 4), .inl (cA 0, (Md_manies s0).1, .inl (Md_manies s0).2)), ((ob0 5), .inl (cA 2, (Md_said s0).1, .inl (Md_said s0).2)), ((ob0 6), .inl (cA 2, (Md_marked s0).1, .inl (Md_marked s0).2)), ((ob0 7), .inl (cA 0, (Md_leaders s0).1, .inl (Md_leaders s0).2)), ((ob0 8), .inl (cA 0, (Md_trial s0).1, .inl (Md_trial s0).2)), ((ob0 9), .inl (cA 0, (Md_shown s0).1, .inl (Md_shown s0).2)), ((ob0 10), .inl (cA 0, (Md_features s0).1, .inl (Md_features s0).2)), ((ob0 11), .inl (cA 0, (Md_parts s0).1, .inl (Md_parts s0).2)), ((ob0 12), .inl (cA 0, (Md_pushedFeatures s0).1, .inl (Md_pushedFeatures s0).2)), ((ob0 13), .inl (cA 0, (Md_pushedParts s0).1, .inl (Md_pushedParts s0).2)), ((ob0 14), .inl (cA 0, (Md_touched s0).1, .inl (Md_touched s0).2)), ((ob0 15), .inl (cA 0, (Md_reached s0).1, .inl (Md_reached s0).2)), ((ob0 16), .inl (cA 0, (Md_blocks s0).1, .inl (Md_blocks s0).2)), ((ob0 17), .inl (cA 0, (Md_newBlocks s0).1, .inl (Md_newBlocks s0).2)), ((ob0 18), .inl (cA 0, (Md_places s0).1, .inl (Md_places s0).2)), ((ad0 0), .inl (cA 0, (Md_written s0).1, .inl (Md_written s0).2)), ((ad0 1), .inl (cA 0, (Md_other s0).1, .inl (Md_other s0).2))]) (lv' := [(0, .ref (ob0 0)), (1, .int p0), (2, .int p1), (3, .int (o55.1)), (4, .int (o55.2))]) rfl rfl ?_
          refine x_iload_n F d_Md_go_127 3 rfl rfl ?_
          replace hm := xm_z_some hm
          obtain ⟨hz, hm⟩ := hm
          replace hm := xm_p_some hm
          obtain ⟨eo, c_o, d_o⟩ := hm
          subst eo
          refine x_sub [0, 1, 2, 3, 4, 5, 6, 7, 8, 9, 10, 11, 12, 13, 14, 15, 16, 17, 18, 19, 20] (by decide) ?_ (xe_i E (fun _ => 0) (by omega) (by omega) rfl hz d_Md_go_128)
          rfl
        · replace hm := xm_t hm c54
          refine x_iload_n F d_Md_go_55 1 rfl rfl ?_
          refine x_iload_n F d_Md_go_56 2 rfl rfl ?_
          refine x_icmp_ne F 64 d_Md_go_57 (by decide) (fun c60 => ?_) (fun c60 => ?_)
          · replace hm := xm_f hm c60
            refine x_iconst (v := (0 : Int32)) F d_Md_go_64 (by decide) ?_
            refine x_istore_n (lv' := [(3, .int (0 : Int32)), (0, .ref (ob0 0)), (1, .int p0), (2, .int p1)]) F d_Md_go_65 rfl (by decide) rfl ?_
            refine x_iconst (v := (0 : Int32)) F d_Md_go_66 (by decide) ?_
            refine x_istore (lv' := [(4, .int (0 : Int32)), (3, .int (0 : Int32)), (0, .ref (ob0 0)), (1, .int p0), (2, .int p1)]) F d_Md_go_67 (by decide) rfl ?_
            replace hm := xm_b_some hm
            obtain ⟨o61, k62, k63, h64, hm, c_o61, d_o61⟩ := hm
            refine x_sub [0, 1, 2, 3, 4, 5, 6, 7, 8, 9, 10, 11, 12, 13, 14, 15, 16, 17, 18, 19, 20] (by decide) ?_ (x_lv [2, 3, 4, 1, 0] ?_ (wl_Md_go_69 F n ob0 p0 p1 s0 ad0 n (0 : Int32) (0 : Int32)  _ _ o61 k62 h64 (by omega) (by omega) (fun ad65 => ?_)))
            · rfl
            · rfl
            refine x_nf2 (ws' := [((ob0 0), .inr (8, [.ref (ob0 1), .ref (ob0 2), .ref (ob0 3), .ref (ob0 4), .ref (ob0 5), .ref (ob0 6), .ref (ob0 7), .ref (ob0 8), .ref (ob0 9), .int (Md_end s0), .int (Md_nodes s0), .ref (ob0 10), .ref (ob0 11), .int (Md_fields s0), .ref (ob0 12), .ref (ob0 13), .int (Md_pushed s0), .ref (ob0 14), .int (Md_touches s0), .ref (ob0 15), .ref (ob0 16), .ref (ob0 17), .ref (ob0 18), .ref (ad0 0), .ref (ad0 1), .int (Md_length s0)])), ((ob0 1), .inl (cA 1, (Md_kinds s0).1, .inl (Md_kinds s0).2)), ((ob0 2), .inl (cA 0, (Md_values s0).1, .inl (Md_values s0).2)), ((ob0 3), .inl (cA 0, (Md_firsts s0).1, .inl (Md_firsts s0).2)), ((ob0 4), .inl (cA 0, (Md_manies s0).1, .inl (Md_manies s0).2)), ((ob0 5), .inl (cA 2, (Md_said s0).1, .inl (Md_said s0).2)), ((ob0 6), .inl (cA 2, (Md_marked s0).1, .inl (Md_marked s0).2)), ((ob0 7), .inl (cA 0, (Md_leaders s0).1, .inl (Md_leaders s0).2)), ((ob0 8), .inl (cA 0, (Md_trial s0).1, .inl (Md_trial s0).2)), ((ob0 9), .inl (cA 0, (Md_shown s0).1, .inl (Md_shown s0).2)), ((ob0 10), .inl (cA 0, (Md_features s0).1, .inl (Md_features s0).2)), ((ob0 11), .inl (cA 0, (Md_parts s0).1, .inl (Md_parts s0).2)), ((ob0 12), .inl (cA 0, (Md_pushedFeatures s0).1, .inl (Md_pushedFeatures s0).2)), ((ob0 13), .inl (cA 0, (Md_pushedParts s0).1, .inl (Md_pushedParts s0).2)), ((ob0 14), .inl (cA 0, (Md_touched s0).1, .inl (Md_touched s0).2)), ((ob0 15), .inl (cA 0, (Md_reached s0).1, .inl (Md_reached s0).2)), ((ob0 16), .inl (cA 0, (Md_blocks s0).1, .inl (Md_blocks s0).2)), ((ob0 17), .inl (cA 0, (Md_newBlocks s0).1, .inl (Md_newBlocks s0).2)), ((ob0 18), .inl (cA 0, (Md_places s0).1, .inl (Md_places s0).2)), ((ad0 0), .inl (cA 0, (Md_written s0).1, .inl (Md_written s0).2)), ((ad0 1), .inl (cA 0, (Md_other s0).1, .inl (Md_other s0).2))]) (lv' := [(0, .ref (ob0 0)), (1, .int p0), (2, .int p1), (3, .int (o61.1)), (4, .int (o61.2))]) rfl rfl ?_
            refine x_iload_n F d_Md_go_127 3 rfl rfl ?_
            replace hm := xm_z_some hm
            obtain ⟨hz, hm⟩ := hm
            replace hm := xm_p_some hm
            obtain ⟨eo, c_o, d_o⟩ := hm
            subst eo
            refine x_sub [0, 1, 2, 3, 4, 5, 6, 7, 8, 9, 10, 11, 12, 13, 14, 15, 16, 17, 18, 19, 20] (by decide) ?_ (xe_i E (fun _ => 0) (by omega) (by omega) rfl hz d_Md_go_128)
            rfl
          · replace hm := xm_t hm c60
            refine x_iconst (v := (1 : Int32)) F d_Md_go_60 (by decide) ?_
            refine x_goto F 65 d_Md_go_61 (by decide) ?_
            refine x_istore_n (lv' := [(3, .int (1 : Int32)), (0, .ref (ob0 0)), (1, .int p0), (2, .int p1)]) F d_Md_go_65 rfl (by decide) rfl ?_
            refine x_iconst (v := (0 : Int32)) F d_Md_go_66 (by decide) ?_
            refine x_istore (lv' := [(4, .int (0 : Int32)), (3, .int (1 : Int32)), (0, .ref (ob0 0)), (1, .int p0), (2, .int p1)]) F d_Md_go_67 (by decide) rfl ?_
            replace hm := xm_b_some hm
            obtain ⟨o66, k67, k68, h69, hm, c_o66, d_o66⟩ := hm
            refine x_sub [0, 1, 2, 3, 4, 5, 6, 7, 8, 9, 10, 11, 12, 13, 14, 15, 16, 17, 18, 19, 20] (by decide) ?_ (x_lv [2, 3, 4, 1, 0] ?_ (wl_Md_go_69 F n ob0 p0 p1 s0 ad0 n (1 : Int32) (0 : Int32)  _ _ o66 k67 h69 (by omega) (by omega) (fun ad70 => ?_)))
            · rfl
            · rfl
            refine x_nf2 (ws' := [((ob0 0), .inr (8, [.ref (ob0 1), .ref (ob0 2), .ref (ob0 3), .ref (ob0 4), .ref (ob0 5), .ref (ob0 6), .ref (ob0 7), .ref (ob0 8), .ref (ob0 9), .int (Md_end s0), .int (Md_nodes s0), .ref (ob0 10), .ref (ob0 11), .int (Md_fields s0), .ref (ob0 12), .ref (ob0 13), .int (Md_pushed s0), .ref (ob0 14), .int (Md_touches s0), .ref (ob0 15), .ref (ob0 16), .ref (ob0 17), .ref (ob0 18), .ref (ad0 0), .ref (ad0 1), .int (Md_length s0)])), ((ob0 1), .inl (cA 1, (Md_kinds s0).1, .inl (Md_kinds s0).2)), ((ob0 2), .inl (cA 0, (Md_values s0).1, .inl (Md_values s0).2)), ((ob0 3), .inl (cA 0, (Md_firsts s0).1, .inl (Md_firsts s0).2)), ((ob0 4), .inl (cA 0, (Md_manies s0).1, .inl (Md_manies s0).2)), ((ob0 5), .inl (cA 2, (Md_said s0).1, .inl (Md_said s0).2)), ((ob0 6), .inl (cA 2, (Md_marked s0).1, .inl (Md_marked s0).2)), ((ob0 7), .inl (cA 0, (Md_leaders s0).1, .inl (Md_leaders s0).2)), ((ob0 8), .inl (cA 0, (Md_trial s0).1, .inl (Md_trial s0).2)), ((ob0 9), .inl (cA 0, (Md_shown s0).1, .inl (Md_shown s0).2)), ((ob0 10), .inl (cA 0, (Md_features s0).1, .inl (Md_features s0).2)), ((ob0 11), .inl (cA 0, (Md_parts s0).1, .inl (Md_parts s0).2)), ((ob0 12), .inl (cA 0, (Md_pushedFeatures s0).1, .inl (Md_pushedFeatures s0).2)), ((ob0 13), .inl (cA 0, (Md_pushedParts s0).1, .inl (Md_pushedParts s0).2)), ((ob0 14), .inl (cA 0, (Md_touched s0).1, .inl (Md_touched s0).2)), ((ob0 15), .inl (cA 0, (Md_reached s0).1, .inl (Md_reached s0).2)), ((ob0 16), .inl (cA 0, (Md_blocks s0).1, .inl (Md_blocks s0).2)), ((ob0 17), .inl (cA 0, (Md_newBlocks s0).1, .inl (Md_newBlocks s0).2)), ((ob0 18), .inl (cA 0, (Md_places s0).1, .inl (Md_places s0).2)), ((ad0 0), .inl (cA 0, (Md_written s0).1, .inl (Md_written s0).2)), ((ad0 1), .inl (cA 0, (Md_other s0).1, .inl (Md_other s0).2))]) (lv' := [(0, .ref (ob0 0)), (1, .int p0), (2, .int p1), (3, .int (o66.1)), (4, .int (o66.2))]) rfl rfl ?_
            refine x_iload_n F d_Md_go_127 3 rfl rfl ?_
            replace hm := xm_z_some hm
            obtain ⟨hz, hm⟩ := hm
            replace hm := xm_p_some hm
            obtain ⟨eo, c_o, d_o⟩ := hm
            subst eo
            refine x_sub [0, 1, 2, 3, 4, 5, 6, 7, 8, 9, 10, 11, 12, 13, 14, 15, 16, 17, 18, 19, 20] (by decide) ?_ (xe_i E (fun _ => 0) (by omega) (by omega) rfl hz d_Md_go_128)
            rfl

noncomputable def L_Md_follow_10 (y2 : Int32) (n i : Nat) : Int32 → S_Md → MO (Int32 × S_Md) := Nat.rec (motive := fun _ => Int32 → S_Md → MO (Int32 × S_Md)) (fun _ _ => none) (fun _ ih x3 s0 => (if (Md_end s0) ≤ x3 then (xm_p ((x3, s0))) else (xm_wr (Md_shown s0) x3 (-1 : Int32) (fun a36 => (ih (x3 + 1) ((Md_kinds s0), (Md_values s0), (Md_firsts s0), (Md_manies s0), (Md_said s0), (Md_marked s0), (Md_leaders s0), (Md_trial s0), a36, (Md_end s0), (Md_nodes s0), (Md_features s0), (Md_parts s0), (Md_fields s0), (Md_pushedFeatures s0), (Md_pushedParts s0), (Md_pushed s0), (Md_touched s0), (Md_touches s0), (Md_reached s0), (Md_blocks s0), (Md_newBlocks s0), (Md_places s0), (Md_written s0), (Md_other s0), (Md_length s0))))))) i
theorem L_Md_follow_10_s (y2 : Int32) (n i : Nat) (x3 : Int32) (s0 : S_Md) : L_Md_follow_10 y2 n (i + 1) x3 s0 = (if (Md_end s0) ≤ x3 then (xm_p ((x3, s0))) else (xm_wr (Md_shown s0) x3 (-1 : Int32) (fun a36 => (L_Md_follow_10 y2 n i (x3 + 1) ((Md_kinds s0), (Md_values s0), (Md_firsts s0), (Md_manies s0), (Md_said s0), (Md_marked s0), (Md_leaders s0), (Md_trial s0), a36, (Md_end s0), (Md_nodes s0), (Md_features s0), (Md_parts s0), (Md_fields s0), (Md_pushedFeatures s0), (Md_pushedParts s0), (Md_pushed s0), (Md_touched s0), (Md_touches s0), (Md_reached s0), (Md_blocks s0), (Md_newBlocks s0), (Md_places s0), (Md_written s0), (Md_other s0), (Md_length s0)))))) := rfl
noncomputable def L_Md_follow_113 (y3 : Int32) (y4 : Int32) (n i : Nat) : Int32 → Int32 → S_Md → MO (Int32 × Int32 × S_Md) := Nat.rec (motive := fun _ => Int32 → Int32 → S_Md → MO (Int32 × Int32 × S_Md)) (fun _ _ _ => none) (fun _ ih x2 x5 s0 => (xm_rd (Md_manies s0) y3 (fun v59 => (if v59 ≤ x5 then (xm_p ((x2, x5, s0))) else (xm_rd (Md_firsts s0) y3 (fun v61 => (xm_rd (Md_parts s0) (v61 + x5) (fun v62 => (xm_rd (Md_firsts s0) y4 (fun v63 => (xm_rd (Md_parts s0) (v63 + x5) (fun v64 => (xm_b (m_Md_join n s0 v62 v64) (fun o65 => (ih (x2 ||| (o65.1)) (x5 + 1) (o65.2)))))))))))))))) i
theorem L_Md_follow_113_s (y3 : Int32) (y4 : Int32) (n i : Nat) (x2 : Int32) (x5 : Int32) (s0 : S_Md) : L_Md_follow_113 y3 y4 n (i + 1) x2 x5 s0 = (xm_rd (Md_manies s0) y3 (fun v59 => (if v59 ≤ x5 then (xm_p ((x2, x5, s0))) else (xm_rd (Md_firsts s0) y3 (fun v61 => (xm_rd (Md_parts s0) (v61 + x5) (fun v62 => (xm_rd (Md_firsts s0) y4 (fun v63 => (xm_rd (Md_parts s0) (v63 + x5) (fun v64 => (xm_b (m_Md_join n s0 v62 v64) (fun o65 => (L_Md_follow_113 y3 y4 n i (x2 ||| (o65.1)) (x5 + 1) (o65.2))))))))))))))) := rfl
noncomputable def L_Md_follow_33  (n i : Nat) : Int32 → Int32 → S_Md → MO ((Int32 × Int32 × S_Md) ⊕ (Int32 × S_Md)) := Nat.rec (motive := fun _ => Int32 → Int32 → S_Md → MO ((Int32 × Int32 × S_Md) ⊕ (Int32 × S_Md))) (fun _ _ _ => none) (fun _ ih x2 x3 s0 => (if (Md_end s0) ≤ x3 then (xm_p (Sum.inl (x2, x3, s0))) else (xm_rd (Md_kinds s0) x3 (fun v43 => (if v43 = (-1 : Int32) then (ih x2 (x3 + 1) s0) else (xm_rd (Md_kinds s0) x3 (fun v45 => (if v45 = 0 then (ih x2 (x3 + 1) s0) else (xm_rd (Md_trial s0) x3 (fun v47 => (xm_rd (Md_shown s0) v47 (fun v48 => (if v48 = (-1 : Int32) then (xm_rd (Md_trial s0) x3 (fun v76 => (xm_wr (Md_shown s0) v76 x3 (fun a77 => (if x2 = 0 then (ih x2 (x3 + 1) ((Md_kinds s0), (Md_values s0), (Md_firsts s0), (Md_manies s0), (Md_said s0), (Md_marked s0), (Md_leaders s0), (Md_trial s0), a77, (Md_end s0), (Md_nodes s0), (Md_features s0), (Md_parts s0), (Md_fields s0), (Md_pushedFeatures s0), (Md_pushedParts s0), (Md_pushed s0), (Md_touched s0), (Md_touches s0), (Md_reached s0), (Md_blocks s0), (Md_newBlocks s0), (Md_places s0), (Md_written s0), (Md_other s0), (Md_length s0))) else (xm_p (Sum.inl (x2, x3, ((Md_kinds s0), (Md_values s0), (Md_firsts s0), (Md_manies s0), (Md_said s0), (Md_marked s0), (Md_leaders s0), (Md_trial s0), a77, (Md_end s0), (Md_nodes s0), (Md_features s0), (Md_parts s0), (Md_fields s0), (Md_pushedFeatures s0), (Md_pushedParts s0), (Md_pushed s0), (Md_touched s0), (Md_touches s0), (Md_reached s0), (Md_blocks s0), (Md_newBlocks s0), (Md_places s0), (Md_written s0), (Md_other s0), (Md_length s0)))))))))) else (xm_b (m_Md_go n s0 v48 x3) (fun o50 => (if o50 = 0 then (xm_p (Sum.inr ((0 : Int32), s0))) else (xm_rd (Md_kinds s0) x3 (fun v56 => (if v56 = (3 : Int32) then (xm_b (L_Md_follow_113 x3 v48 n n x2 (0 : Int32) s0) (fun o70 => (if (o70.1) = 0 then (ih (o70.1) (x3 + 1) (o70.2.2)) else (xm_p (Sum.inl ((o70.1), x3, (o70.2.2))))))) else (if x2 = 0 then (ih x2 (x3 + 1) s0) else (xm_p (Sum.inl (x2, x3, s0))))))))))))))))))))))) i
theorem L_Md_follow_33_s  (n i : Nat) (x2 : Int32) (x3 : Int32) (s0 : S_Md) : L_Md_follow_33  n (i + 1) x2 x3 s0 = (if (Md_end s0) ≤ x3 then (xm_p (Sum.inl (x2, x3, s0))) else (xm_rd (Md_kinds s0) x3 (fun v43 => (if v43 = (-1 : Int32) then (L_Md_follow_33  n i x2 (x3 + 1) s0) else (xm_rd (Md_kinds s0) x3 (fun v45 => (if v45 = 0 then (L_Md_follow_33  n i x2 (x3 + 1) s0) else (xm_rd (Md_trial s0) x3 (fun v47 => (xm_rd (Md_shown s0) v47 (fun v48 => (if v48 = (-1 : Int32) then (xm_rd (Md_trial s0) x3 (fun v76 => (xm_wr (Md_shown s0) v76 x3 (fun a77 => (if x2 = 0 then (L_Md_follow_33  n i x2 (x3 + 1) ((Md_kinds s0), (Md_values s0), (Md_firsts s0), (Md_manies s0), (Md_said s0), (Md_marked s0), (Md_leaders s0), (Md_trial s0), a77, (Md_end s0), (Md_nodes s0), (Md_features s0), (Md_parts s0), (Md_fields s0), (Md_pushedFeatures s0), (Md_pushedParts s0), (Md_pushed s0), (Md_touched s0), (Md_touches s0), (Md_reached s0), (Md_blocks s0), (Md_newBlocks s0), (Md_places s0), (Md_written s0), (Md_other s0), (Md_length s0))) else (xm_p (Sum.inl (x2, x3, ((Md_kinds s0), (Md_values s0), (Md_firsts s0), (Md_manies s0), (Md_said s0), (Md_marked s0), (Md_leaders s0), (Md_trial s0), a77, (Md_end s0), (Md_nodes s0), (Md_features s0), (Md_parts s0), (Md_fields s0), (Md_pushedFeatures s0), (Md_pushedParts s0), (Md_pushed s0), (Md_touched s0), (Md_touches s0), (Md_reached s0), (Md_blocks s0), (Md_newBlocks s0), (Md_places s0), (Md_written s0), (Md_other s0), (Md_length s0)))))))))) else (xm_b (m_Md_go n s0 v48 x3) (fun o50 => (if o50 = 0 then (xm_p (Sum.inr ((0 : Int32), s0))) else (xm_rd (Md_kinds s0) x3 (fun v56 => (if v56 = (3 : Int32) then (xm_b (L_Md_follow_113 x3 v48 n n x2 (0 : Int32) s0) (fun o70 => (if (o70.1) = 0 then (L_Md_follow_33  n i (o70.1) (x3 + 1) (o70.2.2)) else (xm_p (Sum.inl ((o70.1), x3, (o70.2.2))))))) else (if x2 = 0 then (L_Md_follow_33  n i x2 (x3 + 1) s0) else (xm_p (Sum.inl (x2, x3, s0)))))))))))))))))))))) := rfl
noncomputable def L_Md_follow_2  (n i : Nat) : Int32 → S_Md → MO ((Int32 × S_Md) ⊕ (Int32 × S_Md)) := Nat.rec (motive := fun _ => Int32 → S_Md → MO ((Int32 × S_Md) ⊕ (Int32 × S_Md))) (fun _ _ => none) (fun _ ih x2 s0 => (if x2 = 0 then (xm_p (Sum.inl (x2, s0))) else (xm_b (L_Md_follow_10 (0 : Int32) n n (0 : Int32) s0) (fun o37 => (xm_b (L_Md_follow_33  n n (0 : Int32) (0 : Int32) (o37.2)) (fun o79 => Sum.elim (fun e84 => (ih (e84.1) (e84.2.2))) (fun z => xm_p (Sum.inr z)) o79)))))) i
theorem L_Md_follow_2_s  (n i : Nat) (x2 : Int32) (s0 : S_Md) : L_Md_follow_2  n (i + 1) x2 s0 = (if x2 = 0 then (xm_p (Sum.inl (x2, s0))) else (xm_b (L_Md_follow_10 (0 : Int32) n n (0 : Int32) s0) (fun o37 => (xm_b (L_Md_follow_33  n n (0 : Int32) (0 : Int32) (o37.2)) (fun o79 => Sum.elim (fun e84 => (L_Md_follow_2  n i (e84.1) (e84.2.2))) (fun z => xm_p (Sum.inr z)) o79))))) := rfl
noncomputable def m_Md_follow (n : Nat) (s0 : S_Md)  : MO (Int32 × S_Md) := (xm_b (L_Md_follow_2  n n (1 : Int32) s0) (fun o87 => Sum.elim (fun e92 => (xm_p ((1 : Int32), (e92.2)))) (fun z => xm_p z) o87))
set_option maxHeartbeats 4000000 in
set_option maxRecDepth 100000 in
theorem wl_Md_follow_10 {X : XT} {l : Launch} {D : va_G} {cA : Nat → ClassId} {mc ms : Nat} (F : XF X l D cA b_Md_follow 6 (some FieldType.boolean) R_Md 1 26 mc ms) (n : Nat) (ob0 : Nat → Nat) (y2 : Int32)  : ∀ (i : Nat) (x3 : Int32) (s0 : S_Md) (ad0 : Nat → Nat) (nc ns : Nat) (out : Int32 × S_Md) (k : KC), L_Md_follow_10 y2 n i x3 s0 = some (out, k) → nc + k.1 ≤ mc → ns + k.2 ≤ ms → (∀ ad : Nat → Nat, XW X 6 ((w_Md cA ob0 ad  (out.2))) (nc + k.1) (ns + k.2) 31 [(0, .ref (ob0 0)), (1, .ref (ob0 8)), (2, .int y2), (3, .int (out.1))] []) → XW X 6 ((w_Md cA ob0 ad0  s0)) nc ns 10 [(0, .ref (ob0 0)), (1, .ref (ob0 8)), (2, .int y2), (3, .int x3)] [] := by
  intro i
  induction i with
  | zero =>
    intro x3 s0 ad0 nc ns out k hm
    replace hm : (none : MO (Int32 × S_Md)) = some (out, k) := hm
    cases hm
  | succ i ih =>
    intro x3 s0 ad0 nc ns out k hm hc hs KX
    rw [L_Md_follow_10_s] at hm
    refine x_ws (ws' := [((ob0 0), .inr (8, [.ref (ob0 1), .ref (ob0 2), .ref (ob0 3), .ref (ob0 4), .ref (ob0 5), .ref (ob0 6), .ref (ob0 7), .ref (ob0 8), .ref (ob0 9), .int (Md_end s0), .int (Md_nodes s0), .ref (ob0 10), .ref (ob0 11), .int (Md_fields s0), .ref (ob0 12), .ref (ob0 13), .int (Md_pushed s0), .ref (ob0 14), .int (Md_touches s0), .ref (ob0 15), .ref (ob0 16), .ref (ob0 17), .ref (ob0 18), .ref (ad0 0), .ref (ad0 1), .int (Md_length s0)])), ((ob0 1), .inl (cA 1, (Md_kinds s0).1, .inl (Md_kinds s0).2)), ((ob0 2), .inl (cA 0, (Md_values s0).1, .inl (Md_values s0).2)), ((ob0 3), .inl (cA 0, (Md_firsts s0).1, .inl (Md_firsts s0).2)), ((ob0 4), .inl (cA 0, (Md_manies s0).1, .inl (Md_manies s0).2)), ((ob0 5), .inl (cA 2, (Md_said s0).1, .inl (Md_said s0).2)), ((ob0 6), .inl (cA 2, (Md_marked s0).1, .inl (Md_marked s0).2)), ((ob0 7), .inl (cA 0, (Md_leaders s0).1, .inl (Md_leaders s0).2)), ((ob0 8), .inl (cA 0, (Md_trial s0).1, .inl (Md_trial s0).2)), ((ob0 9), .inl (cA 0, (Md_shown s0).1, .inl (Md_shown s0).2)), ((ob0 10), .inl (cA 0, (Md_features s0).1, .inl (Md_features s0).2)), ((ob0 11), .inl (cA 0, (Md_parts s0).1, .inl (Md_parts s0).2)), ((ob0 12), .inl (cA 0, (Md_pushedFeatures s0).1, .inl (Md_pushedFeatures s0).2)), ((ob0 13), .inl (cA 0, (Md_pushedParts s0).1, .inl (Md_pushedParts s0).2)), ((ob0 14), .inl (cA 0, (Md_touched s0).1, .inl (Md_touched s0).2)), ((ob0 15), .inl (cA 0, (Md_reached s0).1, .inl (Md_reached s0).2)), ((ob0 16), .inl (cA 0, (Md_blocks s0).1, .inl (Md_blocks s0).2)), ((ob0 17), .inl (cA 0, (Md_newBlocks s0).1, .inl (Md_newBlocks s0).2)), ((ob0 18), .inl (cA 0, (Md_places s0).1, .inl (Md_places s0).2)), ((ad0 0), .inl (cA 0, (Md_written s0).1, .inl (Md_written s0).2)), ((ad0 1), .inl (cA 0, (Md_other s0).1, .inl (Md_other s0).2))]) rfl ?_
    refine x_iload_n F d_Md_follow_10 3 rfl rfl ?_
    refine x_aload_n F d_Md_follow_11 0 rfl rfl ?_
    refine x_get F ck_Md hin_Md 0 9 rfl (by decide) kw_643 rfl rfl d_Md_follow_12 ?_
    refine x_icmp_ge F 31 d_Md_follow_15 (by decide) (fun c35 => ?_) (fun c35 => ?_)
    · replace hm := xm_t hm c35
      replace hm := xm_p_some hm
      obtain ⟨eo, c_o, d_o⟩ := hm
      subst eo
      refine x_sub [0, 1, 2, 3, 4, 5, 6, 7, 8, 9, 10, 11, 12, 13, 14, 15, 16, 17, 18, 19, 20] (by decide) ?_ (x_lv [0, 1, 2, 3] ?_ (x_cs (by omega) (by omega) (KX ad0)))
      · rfl
      · rfl
    · replace hm := xm_f hm c35
      refine x_aload_n F d_Md_follow_18 0 rfl rfl ?_
      refine x_get F ck_Md hin_Md 0 8 rfl (by decide) kw_642 rfl rfl d_Md_follow_19 ?_
      refine x_iload_n F d_Md_follow_22 3 rfl rfl ?_
      refine x_iconst (v := (-1 : Int32)) F d_Md_follow_23 (by decide) ?_
      replace hm := xm_wr_some hm
      obtain ⟨a36, e_a36, b_a36, hm⟩ := hm
      refine x_iast (x := (Md_shown s0)) (x' := a36) (ws' := [((ob0 0), .inr (8, [.ref (ob0 1), .ref (ob0 2), .ref (ob0 3), .ref (ob0 4), .ref (ob0 5), .ref (ob0 6), .ref (ob0 7), .ref (ob0 8), .ref (ob0 9), .int (Md_end s0), .int (Md_nodes s0), .ref (ob0 10), .ref (ob0 11), .int (Md_fields s0), .ref (ob0 12), .ref (ob0 13), .int (Md_pushed s0), .ref (ob0 14), .int (Md_touches s0), .ref (ob0 15), .ref (ob0 16), .ref (ob0 17), .ref (ob0 18), .ref (ad0 0), .ref (ad0 1), .int (Md_length s0)])), ((ob0 1), .inl (cA 1, (Md_kinds s0).1, .inl (Md_kinds s0).2)), ((ob0 2), .inl (cA 0, (Md_values s0).1, .inl (Md_values s0).2)), ((ob0 3), .inl (cA 0, (Md_firsts s0).1, .inl (Md_firsts s0).2)), ((ob0 4), .inl (cA 0, (Md_manies s0).1, .inl (Md_manies s0).2)), ((ob0 5), .inl (cA 2, (Md_said s0).1, .inl (Md_said s0).2)), ((ob0 6), .inl (cA 2, (Md_marked s0).1, .inl (Md_marked s0).2)), ((ob0 7), .inl (cA 0, (Md_leaders s0).1, .inl (Md_leaders s0).2)), ((ob0 8), .inl (cA 0, (Md_trial s0).1, .inl (Md_trial s0).2)), ((ob0 9), .inl (cA 0, a36.1, .inl a36.2)), ((ob0 10), .inl (cA 0, (Md_features s0).1, .inl (Md_features s0).2)), ((ob0 11), .inl (cA 0, (Md_parts s0).1, .inl (Md_parts s0).2)), ((ob0 12), .inl (cA 0, (Md_pushedFeatures s0).1, .inl (Md_pushedFeatures s0).2)), ((ob0 13), .inl (cA 0, (Md_pushedParts s0).1, .inl (Md_pushedParts s0).2)), ((ob0 14), .inl (cA 0, (Md_touched s0).1, .inl (Md_touched s0).2)), ((ob0 15), .inl (cA 0, (Md_reached s0).1, .inl (Md_reached s0).2)), ((ob0 16), .inl (cA 0, (Md_blocks s0).1, .inl (Md_blocks s0).2)), ((ob0 17), .inl (cA 0, (Md_newBlocks s0).1, .inl (Md_newBlocks s0).2)), ((ob0 18), .inl (cA 0, (Md_places s0).1, .inl (Md_places s0).2)), ((ad0 0), .inl (cA 0, (Md_written s0).1, .inl (Md_written s0).2)), ((ad0 1), .inl (cA 0, (Md_other s0).1, .inl (Md_other s0).2))]) F 9 rfl e_a36 b_a36 rfl d_Md_follow_24 ?_
      refine x_iinc (v := (x3 + 1)) (lv' := [(3, .int (x3 + 1)), (0, .ref (ob0 0)), (1, .ref (ob0 8)), (2, .int y2)]) F d_Md_follow_25 3 rfl rfl (by decide) rfl ?_
      refine x_goto F 10 d_Md_follow_28 (by decide) ?_
      refine x_sub [0, 1, 2, 3, 4, 5, 6, 7, 8, 9, 10, 11, 12, 13, 14, 15, 16, 17, 18, 19, 20] (by decide) ?_ (x_lv [1, 2, 3, 0] ?_ (ih (x3 + 1) ((Md_kinds s0), (Md_values s0), (Md_firsts s0), (Md_manies s0), (Md_said s0), (Md_marked s0), (Md_leaders s0), (Md_trial s0), a36, (Md_end s0), (Md_nodes s0), (Md_features s0), (Md_parts s0), (Md_fields s0), (Md_pushedFeatures s0), (Md_pushedParts s0), (Md_pushed s0), (Md_touched s0), (Md_touches s0), (Md_reached s0), (Md_blocks s0), (Md_newBlocks s0), (Md_places s0), (Md_written s0), (Md_other s0), (Md_length s0)) ad0 _ _ out k hm (by omega) (by omega) (fun ad => x_cs (by omega) (by omega) (KX ad))))
      · rfl
      · rfl
set_option maxHeartbeats 4000000 in
set_option maxRecDepth 100000 in
theorem wl_Md_follow_113 {X : XT} {l : Launch} {D : va_G} {cA : Nat → ClassId} {mc ms : Nat} (F : XF X l D cA b_Md_follow 6 (some FieldType.boolean) R_Md 1 26 mc ms) (n : Nat) (ob0 : Nat → Nat) (y3 : Int32) (y4 : Int32)  : ∀ (i : Nat) (x2 : Int32) (x5 : Int32) (s0 : S_Md) (ad0 : Nat → Nat) (nc ns : Nat) (out : Int32 × Int32 × S_Md) (k : KC), L_Md_follow_113 y3 y4 n i x2 x5 s0 = some (out, k) → nc + k.1 ≤ mc → ns + k.2 ≤ ms → (∀ ad : Nat → Nat, XW X 6 ((w_Md cA ob0 ad  (out.2.2))) (nc + k.1) (ns + k.2) 167 [(0, .ref (ob0 0)), (1, .ref (ob0 8)), (2, .int (out.1)), (3, .int y3), (4, .int y4), (5, .int (out.2.1))] []) → XW X 6 ((w_Md cA ob0 ad0  s0)) nc ns 113 [(0, .ref (ob0 0)), (1, .ref (ob0 8)), (2, .int x2), (3, .int y3), (4, .int y4), (5, .int x5)] [] := by
  intro i
  induction i with
  | zero =>
    intro x2 x5 s0 ad0 nc ns out k hm
    replace hm : (none : MO (Int32 × Int32 × S_Md)) = some (out, k) := hm
    cases hm
  | succ i ih =>
    intro x2 x5 s0 ad0 nc ns out k hm hc hs KX
    rw [L_Md_follow_113_s] at hm
    refine x_ws (ws' := [((ob0 0), .inr (8, [.ref (ob0 1), .ref (ob0 2), .ref (ob0 3), .ref (ob0 4), .ref (ob0 5), .ref (ob0 6), .ref (ob0 7), .ref (ob0 8), .ref (ob0 9), .int (Md_end s0), .int (Md_nodes s0), .ref (ob0 10), .ref (ob0 11), .int (Md_fields s0), .ref (ob0 12), .ref (ob0 13), .int (Md_pushed s0), .ref (ob0 14), .int (Md_touches s0), .ref (ob0 15), .ref (ob0 16), .ref (ob0 17), .ref (ob0 18), .ref (ad0 0), .ref (ad0 1), .int (Md_length s0)])), ((ob0 1), .inl (cA 1, (Md_kinds s0).1, .inl (Md_kinds s0).2)), ((ob0 2), .inl (cA 0, (Md_values s0).1, .inl (Md_values s0).2)), ((ob0 3), .inl (cA 0, (Md_firsts s0).1, .inl (Md_firsts s0).2)), ((ob0 4), .inl (cA 0, (Md_manies s0).1, .inl (Md_manies s0).2)), ((ob0 5), .inl (cA 2, (Md_said s0).1, .inl (Md_said s0).2)), ((ob0 6), .inl (cA 2, (Md_marked s0).1, .inl (Md_marked s0).2)), ((ob0 7), .inl (cA 0, (Md_leaders s0).1, .inl (Md_leaders s0).2)), ((ob0 8), .inl (cA 0, (Md_trial s0).1, .inl (Md_trial s0).2)), ((ob0 9), .inl (cA 0, (Md_shown s0).1, .inl (Md_shown s0).2)), ((ob0 10), .inl (cA 0, (Md_features s0).1, .inl (Md_features s0).2)), ((ob0 11), .inl (cA 0, (Md_parts s0).1, .inl (Md_parts s0).2)), ((ob0 12), .inl (cA 0, (Md_pushedFeatures s0).1, .inl (Md_pushedFeatures s0).2)), ((ob0 13), .inl (cA 0, (Md_pushedParts s0).1, .inl (Md_pushedParts s0).2)), ((ob0 14), .inl (cA 0, (Md_touched s0).1, .inl (Md_touched s0).2)), ((ob0 15), .inl (cA 0, (Md_reached s0).1, .inl (Md_reached s0).2)), ((ob0 16), .inl (cA 0, (Md_blocks s0).1, .inl (Md_blocks s0).2)), ((ob0 17), .inl (cA 0, (Md_newBlocks s0).1, .inl (Md_newBlocks s0).2)), ((ob0 18), .inl (cA 0, (Md_places s0).1, .inl (Md_places s0).2)), ((ad0 0), .inl (cA 0, (Md_written s0).1, .inl (Md_written s0).2)), ((ad0 1), .inl (cA 0, (Md_other s0).1, .inl (Md_other s0).2))]) rfl ?_
    refine x_iload F d_Md_follow_113 5 rfl ?_
    refine x_aload_n F d_Md_follow_115 0 rfl rfl ?_
    refine x_get F ck_Md hin_Md 0 3 rfl (by decide) kw_637 rfl rfl d_Md_follow_116 ?_
    refine x_iload_n F d_Md_follow_119 3 rfl rfl ?_
    replace hm := xm_rd_some hm
    obtain ⟨v59, e_v59, b_v59, hm⟩ := hm
    refine x_iald (x := (Md_manies s0)) F 4 rfl e_v59 b_v59 d_Md_follow_120 ?_
    refine x_icmp_ge F 167 d_Md_follow_121 (by decide) (fun c60 => ?_) (fun c60 => ?_)
    · replace hm := xm_t hm c60
      replace hm := xm_p_some hm
      obtain ⟨eo, c_o, d_o⟩ := hm
      subst eo
      refine x_sub [0, 1, 2, 3, 4, 5, 6, 7, 8, 9, 10, 11, 12, 13, 14, 15, 16, 17, 18, 19, 20] (by decide) ?_ (x_lv [0, 1, 2, 3, 4, 5] ?_ (x_cs (by omega) (by omega) (KX ad0)))
      · rfl
      · rfl
    · replace hm := xm_f hm c60
      refine x_iload_n F d_Md_follow_124 2 rfl rfl ?_
      refine x_aload_n F d_Md_follow_125 0 rfl rfl ?_
      refine x_aload_n F d_Md_follow_126 1 rfl rfl ?_
      refine x_aload_n F d_Md_follow_127 0 rfl rfl ?_
      refine x_get F ck_Md hin_Md 0 12 rfl (by decide) kw_646 rfl rfl d_Md_follow_128 ?_
      refine x_aload_n F d_Md_follow_131 0 rfl rfl ?_
      refine x_get F ck_Md hin_Md 0 2 rfl (by decide) kw_636 rfl rfl d_Md_follow_132 ?_
      refine x_iload_n F d_Md_follow_135 3 rfl rfl ?_
      replace hm := xm_rd_some hm
      obtain ⟨v61, e_v61, b_v61, hm⟩ := hm
      refine x_iald (x := (Md_firsts s0)) F 3 rfl e_v61 b_v61 d_Md_follow_136 ?_
      refine x_iload F d_Md_follow_137 5 rfl ?_
      refine x_iadd F d_Md_follow_139 ?_
      replace hm := xm_rd_some hm
      obtain ⟨v62, e_v62, b_v62, hm⟩ := hm
      refine x_iald (x := (Md_parts s0)) F 11 rfl e_v62 b_v62 d_Md_follow_140 ?_
      refine x_aload_n F d_Md_follow_141 0 rfl rfl ?_
      refine x_get F ck_Md hin_Md 0 12 rfl (by decide) kw_646 rfl rfl d_Md_follow_142 ?_
      refine x_aload_n F d_Md_follow_145 0 rfl rfl ?_
      refine x_get F ck_Md hin_Md 0 2 rfl (by decide) kw_636 rfl rfl d_Md_follow_146 ?_
      refine x_iload F d_Md_follow_149 4 rfl ?_
      replace hm := xm_rd_some hm
      obtain ⟨v63, e_v63, b_v63, hm⟩ := hm
      refine x_iald (x := (Md_firsts s0)) F 3 rfl e_v63 b_v63 d_Md_follow_151 ?_
      refine x_iload F d_Md_follow_152 5 rfl ?_
      refine x_iadd F d_Md_follow_154 ?_
      replace hm := xm_rd_some hm
      obtain ⟨v64, e_v64, b_v64, hm⟩ := hm
      refine x_iald (x := (Md_parts s0)) F 11 rfl e_v64 b_v64 d_Md_follow_155 ?_
      replace hm := xm_b_some hm
      obtain ⟨o65, k66, k67, h68, hm, c_o65, d_o65⟩ := hm
      refine x_callV (n := 3) (C := R_Md) (wr := []) F (c_Md_join l D cA n ob0 ad0 s0 v62 v64 o65 k66 h68) kw_770 kw_767 kw_769 kw_23 kw_47 ⟨rfl, by decide, by decide, by decide +kernel⟩ rfl (by decide) (by decide) (ci := 8) rfl rfl 0 rfl [0, 1, 2, 3, 4, 5, 6, 7, 8, 9, 10, 11, 12, 13, 14, 15, 16, 17, 18, 19, 20] [] rfl rfl (by decide) (by decide) (by decide) rfl (Nat.le_of_ble_eq_true rfl) (by omega) (by omega) d_Md_follow_156 (fun ad69 => ?_)
      refine x_nf (ws' := [((ob0 0), .inr (8, [.ref (ob0 1), .ref (ob0 2), .ref (ob0 3), .ref (ob0 4), .ref (ob0 5), .ref (ob0 6), .ref (ob0 7), .ref (ob0 8), .ref (ob0 9), .int (Md_end (o65.2)), .int (Md_nodes (o65.2)), .ref (ob0 10), .ref (ob0 11), .int (Md_fields (o65.2)), .ref (ob0 12), .ref (ob0 13), .int (Md_pushed (o65.2)), .ref (ob0 14), .int (Md_touches (o65.2)), .ref (ob0 15), .ref (ob0 16), .ref (ob0 17), .ref (ob0 18), .ref (ad69 0), .ref (ad69 1), .int (Md_length (o65.2))])), ((ob0 1), .inl (cA 1, (Md_kinds (o65.2)).1, .inl (Md_kinds (o65.2)).2)), ((ob0 2), .inl (cA 0, (Md_values (o65.2)).1, .inl (Md_values (o65.2)).2)), ((ob0 3), .inl (cA 0, (Md_firsts (o65.2)).1, .inl (Md_firsts (o65.2)).2)), ((ob0 4), .inl (cA 0, (Md_manies (o65.2)).1, .inl (Md_manies (o65.2)).2)), ((ob0 5), .inl (cA 2, (Md_said (o65.2)).1, .inl (Md_said (o65.2)).2)), ((ob0 6), .inl (cA 2, (Md_marked (o65.2)).1, .inl (Md_marked (o65.2)).2)), ((ob0 7), .inl (cA 0, (Md_leaders (o65.2)).1, .inl (Md_leaders (o65.2)).2)), ((ob0 8), .inl (cA 0, (Md_trial (o65.2)).1, .inl (Md_trial (o65.2)).2)), ((ob0 9), .inl (cA 0, (Md_shown (o65.2)).1, .inl (Md_shown (o65.2)).2)), ((ob0 10), .inl (cA 0, (Md_features (o65.2)).1, .inl (Md_features (o65.2)).2)), ((ob0 11), .inl (cA 0, (Md_parts (o65.2)).1, .inl (Md_parts (o65.2)).2)), ((ob0 12), .inl (cA 0, (Md_pushedFeatures (o65.2)).1, .inl (Md_pushedFeatures (o65.2)).2)), ((ob0 13), .inl (cA 0, (Md_pushedParts (o65.2)).1, .inl (Md_pushedParts (o65.2)).2)), ((ob0 14), .inl (cA 0, (Md_touched (o65.2)).1, .inl (Md_touched (o65.2)).2)), ((ob0 15), .inl (cA 0, (Md_reached (o65.2)).1, .inl (Md_reached (o65.2)).2)), ((ob0 16), .inl (cA 0, (Md_blocks (o65.2)).1, .inl (Md_blocks (o65.2)).2)), ((ob0 17), .inl (cA 0, (Md_newBlocks (o65.2)).1, .inl (Md_newBlocks (o65.2)).2)), ((ob0 18), .inl (cA 0, (Md_places (o65.2)).1, .inl (Md_places (o65.2)).2)), ((ad69 0), .inl (cA 0, (Md_written (o65.2)).1, .inl (Md_written (o65.2)).2)), ((ad69 1), .inl (cA 0, (Md_other (o65.2)).1, .inl (Md_other (o65.2)).2))]) (st' := [.int (o65.1), .int x2]) rfl rfl ?_
      refine x_ior F d_Md_follow_159 ?_
      refine x_istore_n (lv' := [(2, .int (x2 ||| (o65.1))), (0, .ref (ob0 0)), (1, .ref (ob0 8)), (3, .int y3), (4, .int y4), (5, .int x5)]) F d_Md_follow_160 rfl (by decide) rfl ?_
      refine x_iinc (v := (x5 + 1)) (lv' := [(5, .int (x5 + 1)), (2, .int (x2 ||| (o65.1))), (0, .ref (ob0 0)), (1, .ref (ob0 8)), (3, .int y3), (4, .int y4)]) F d_Md_follow_161 5 rfl rfl (by decide) rfl ?_
      refine x_goto F 113 d_Md_follow_164 (by decide) ?_
      refine x_sub [0, 1, 2, 3, 4, 5, 6, 7, 8, 9, 10, 11, 12, 13, 14, 15, 16, 17, 18, 19, 20] (by decide) ?_ (x_lv [2, 3, 1, 4, 5, 0] ?_ (ih (x2 ||| (o65.1)) (x5 + 1) (o65.2) ad69 _ _ out k67 hm (by omega) (by omega) (fun ad => x_cs (by omega) (by omega) (KX ad))))
      · rfl
      · rfl
set_option maxHeartbeats 4000000 in
set_option maxRecDepth 100000 in
theorem wl_Md_follow_33 {X : XT} {l : Launch} {D : va_G} {cA : Nat → ClassId} {mc ms : Nat} (F : XF X l D cA b_Md_follow 6 (some FieldType.boolean) R_Md 1 26 mc ms) (n : Nat) (ob0 : Nat → Nat)   : ∀ (i : Nat) (x2 : Int32) (x3 : Int32) (s0 : S_Md) (ad0 : Nat → Nat) (nc ns : Nat) (out : (Int32 × Int32 × S_Md) ⊕ (Int32 × S_Md)) (k : KC), L_Md_follow_33  n i x2 x3 s0 = some (out, k) → nc + k.1 ≤ mc → ns + k.2 ≤ ms → (∀ e : Int32 × Int32 × S_Md, out = Sum.inl e → ∀ ad : Nat → Nat, XW X 6 ((w_Md cA ob0 ad  (e.2.2))) (nc + k.1) (ns + k.2) 180 [(0, .ref (ob0 0)), (1, .ref (ob0 8)), (2, .int (e.1)), (3, .int (e.2.1))] []) → (∀ r : Int32 × S_Md, out = Sum.inr r → ∀ (ad : Nat → Nat) (pc : Nat) (lv : List (Nat × Value)), narrow .boolean (.int (r.1)) = .int (r.1) → decode b_Md_follow pc = .ok (.ireturn, 1) → XW X 6 ((w_Md cA ob0 ad  (r.2))) (nc + k.1) (ns + k.2) pc lv [.int (r.1)]) → XW X 6 ((w_Md cA ob0 ad0  s0)) nc ns 33 [(0, .ref (ob0 0)), (1, .ref (ob0 8)), (2, .int x2), (3, .int x3)] [] := by
  intro i
  induction i with
  | zero =>
    intro x2 x3 s0 ad0 nc ns out k hm
    replace hm : (none : MO ((Int32 × Int32 × S_Md) ⊕ (Int32 × S_Md))) = some (out, k) := hm
    cases hm
  | succ i ih =>
    intro x2 x3 s0 ad0 nc ns out k hm hc hs KX KR
    rw [L_Md_follow_33_s] at hm
    refine x_ws (ws' := [((ob0 0), .inr (8, [.ref (ob0 1), .ref (ob0 2), .ref (ob0 3), .ref (ob0 4), .ref (ob0 5), .ref (ob0 6), .ref (ob0 7), .ref (ob0 8), .ref (ob0 9), .int (Md_end s0), .int (Md_nodes s0), .ref (ob0 10), .ref (ob0 11), .int (Md_fields s0), .ref (ob0 12), .ref (ob0 13), .int (Md_pushed s0), .ref (ob0 14), .int (Md_touches s0), .ref (ob0 15), .ref (ob0 16), .ref (ob0 17), .ref (ob0 18), .ref (ad0 0), .ref (ad0 1), .int (Md_length s0)])), ((ob0 1), .inl (cA 1, (Md_kinds s0).1, .inl (Md_kinds s0).2)), ((ob0 2), .inl (cA 0, (Md_values s0).1, .inl (Md_values s0).2)), ((ob0 3), .inl (cA 0, (Md_firsts s0).1, .inl (Md_firsts s0).2)), ((ob0 4), .inl (cA 0, (Md_manies s0).1, .inl (Md_manies s0).2)), ((ob0 5), .inl (cA 2, (Md_said s0).1, .inl (Md_said s0).2)), ((ob0 6), .inl (cA 2, (Md_marked s0).1, .inl (Md_marked s0).2)), ((ob0 7), .inl (cA 0, (Md_leaders s0).1, .inl (Md_leaders s0).2)), ((ob0 8), .inl (cA 0, (Md_trial s0).1, .inl (Md_trial s0).2)), ((ob0 9), .inl (cA 0, (Md_shown s0).1, .inl (Md_shown s0).2)), ((ob0 10), .inl (cA 0, (Md_features s0).1, .inl (Md_features s0).2)), ((ob0 11), .inl (cA 0, (Md_parts s0).1, .inl (Md_parts s0).2)), ((ob0 12), .inl (cA 0, (Md_pushedFeatures s0).1, .inl (Md_pushedFeatures s0).2)), ((ob0 13), .inl (cA 0, (Md_pushedParts s0).1, .inl (Md_pushedParts s0).2)), ((ob0 14), .inl (cA 0, (Md_touched s0).1, .inl (Md_touched s0).2)), ((ob0 15), .inl (cA 0, (Md_reached s0).1, .inl (Md_reached s0).2)), ((ob0 16), .inl (cA 0, (Md_blocks s0).1, .inl (Md_blocks s0).2)), ((ob0 17), .inl (cA 0, (Md_newBlocks s0).1, .inl (Md_newBlocks s0).2)), ((ob0 18), .inl (cA 0, (Md_places s0).1, .inl (Md_places s0).2)), ((ad0 0), .inl (cA 0, (Md_written s0).1, .inl (Md_written s0).2)), ((ad0 1), .inl (cA 0, (Md_other s0).1, .inl (Md_other s0).2))]) rfl ?_
    refine x_iload_n F d_Md_follow_33 3 rfl rfl ?_
    refine x_aload_n F d_Md_follow_34 0 rfl rfl ?_
    refine x_get F ck_Md hin_Md 0 9 rfl (by decide) kw_643 rfl rfl d_Md_follow_35 ?_
    refine x_icmp_ge F 180 d_Md_follow_38 (by decide) (fun c42 => ?_) (fun c42 => ?_)
    · replace hm := xm_t hm c42
      replace hm := xm_p_some hm
      obtain ⟨eo, c_o, d_o⟩ := hm
      refine x_sub [0, 1, 2, 3, 4, 5, 6, 7, 8, 9, 10, 11, 12, 13, 14, 15, 16, 17, 18, 19, 20] (by decide) ?_ (x_lv [0, 1, 2, 3] ?_ (x_cs (by omega) (by omega) (KX _ eo ad0)))
      · rfl
      · rfl
    · replace hm := xm_f hm c42
      refine x_aload_n F d_Md_follow_41 0 rfl rfl ?_
      refine x_get F ck_Md hin_Md 0 0 rfl (by decide) kw_634 rfl rfl d_Md_follow_42 ?_
      refine x_iload_n F d_Md_follow_45 3 rfl rfl ?_
      replace hm := xm_rd_some hm
      obtain ⟨v43, e_v43, b_v43, hm⟩ := hm
      refine x_bald (x := (Md_kinds s0)) F 1 rfl e_v43 b_v43 d_Md_follow_46 ?_
      refine x_iconst (v := (-1 : Int32)) F d_Md_follow_47 (by decide) ?_
      refine x_icmp_eq F 174 d_Md_follow_48 (by decide) (fun c44 => ?_) (fun c44 => ?_)
      · replace hm := xm_t hm c44
        refine x_iinc (v := (x3 + 1)) (lv' := [(3, .int (x3 + 1)), (0, .ref (ob0 0)), (1, .ref (ob0 8)), (2, .int x2)]) F d_Md_follow_174 3 rfl rfl (by decide) rfl ?_
        refine x_goto F 33 d_Md_follow_177 (by decide) ?_
        refine x_sub [0, 1, 2, 3, 4, 5, 6, 7, 8, 9, 10, 11, 12, 13, 14, 15, 16, 17, 18, 19, 20] (by decide) ?_ (x_lv [1, 2, 3, 0] ?_ (ih x2 (x3 + 1) s0 ad0 _ _ out k hm (by omega) (by omega) (fun e he ad => x_cs (by omega) (by omega) (KX e he ad)) (fun r hr ad pc lv hn hd => x_cs (by omega) (by omega) (KR r hr ad pc lv hn hd))))
        · rfl
        · rfl
      · replace hm := xm_f hm c44
        refine x_aload_n F d_Md_follow_51 0 rfl rfl ?_
        refine x_get F ck_Md hin_Md 0 0 rfl (by decide) kw_634 rfl rfl d_Md_follow_52 ?_
        refine x_iload_n F d_Md_follow_55 3 rfl rfl ?_
        replace hm := xm_rd_some hm
        obtain ⟨v45, e_v45, b_v45, hm⟩ := hm
        refine x_bald (x := (Md_kinds s0)) F 1 rfl e_v45 b_v45 d_Md_follow_56 ?_
        refine x_if_eq F 174 d_Md_follow_57 (by decide) (fun c46 => ?_) (fun c46 => ?_)
        · replace hm := xm_t hm c46
          refine x_iinc (v := (x3 + 1)) (lv' := [(3, .int (x3 + 1)), (0, .ref (ob0 0)), (1, .ref (ob0 8)), (2, .int x2)]) F d_Md_follow_174 3 rfl rfl (by decide) rfl ?_
          refine x_goto F 33 d_Md_follow_177 (by decide) ?_
          refine x_sub [0, 1, 2, 3, 4, 5, 6, 7, 8, 9, 10, 11, 12, 13, 14, 15, 16, 17, 18, 19, 20] (by decide) ?_ (x_lv [1, 2, 3, 0] ?_ (ih x2 (x3 + 1) s0 ad0 _ _ out k hm (by omega) (by omega) (fun e he ad => x_cs (by omega) (by omega) (KX e he ad)) (fun r hr ad pc lv hn hd => x_cs (by omega) (by omega) (KR r hr ad pc lv hn hd))))
          · rfl
          · rfl
        · replace hm := xm_f hm c46
          refine x_aload_n F d_Md_follow_60 0 rfl rfl ?_
          refine x_get F ck_Md hin_Md 0 8 rfl (by decide) kw_642 rfl rfl d_Md_follow_61 ?_
          refine x_aload_n F d_Md_follow_64 1 rfl rfl ?_
          refine x_iload_n F d_Md_follow_65 3 rfl rfl ?_
          replace hm := xm_rd_some hm
          obtain ⟨v47, e_v47, b_v47, hm⟩ := hm
          refine x_iald (x := (Md_trial s0)) F 8 rfl e_v47 b_v47 d_Md_follow_66 ?_
          replace hm := xm_rd_some hm
          obtain ⟨v48, e_v48, b_v48, hm⟩ := hm
          refine x_iald (x := (Md_shown s0)) F 9 rfl e_v48 b_v48 d_Md_follow_67 ?_
          refine x_istore (lv' := [(4, .int v48), (0, .ref (ob0 0)), (1, .ref (ob0 8)), (2, .int x2), (3, .int x3)]) F d_Md_follow_68 (by decide) rfl ?_
          refine x_iload F d_Md_follow_70 0 rfl ?_
          refine x_iconst (v := (-1 : Int32)) F d_Md_follow_72 (by decide) ?_
          refine x_icmp_ne F 88 d_Md_follow_73 (by decide) (fun c49 => ?_) (fun c49 => ?_)
          · replace hm := xm_f hm c49
            refine x_aload_n F d_Md_follow_88 1 rfl rfl ?_
            refine x_iload F d_Md_follow_89 0 rfl ?_
            refine x_iload_n F d_Md_follow_91 4 rfl rfl ?_
            replace hm := xm_b_some hm
            obtain ⟨o50, k51, k52, h53, hm, c_o50, d_o50⟩ := hm
            refine x_callV (n := 2) (C := R_Md) (wr := []) F (c_Md_go l D cA n ob0 ad0 s0 v48 x3 o50 k51 h53) kw_778 kw_775 kw_777 kw_25 kw_47 ⟨rfl, by decide, by decide, by decide +kernel⟩ rfl (by decide) (by decide) (ci := 8) rfl rfl 0 rfl [0, 1, 2, 3, 4, 5, 6, 7, 8, 9, 10, 11, 12, 13, 14, 15, 16, 17, 18, 19, 20] [] rfl rfl (by decide) (by decide) (by decide) rfl (Nat.le_of_ble_eq_true rfl) (by omega) (by omega) d_Md_follow_92 (fun ad54 => ?_)
            refine x_nf (ws' := [((ob0 0), .inr (8, [.ref (ob0 1), .ref (ob0 2), .ref (ob0 3), .ref (ob0 4), .ref (ob0 5), .ref (ob0 6), .ref (ob0 7), .ref (ob0 8), .ref (ob0 9), .int (Md_end s0), .int (Md_nodes s0), .ref (ob0 10), .ref (ob0 11), .int (Md_fields s0), .ref (ob0 12), .ref (ob0 13), .int (Md_pushed s0), .ref (ob0 14), .int (Md_touches s0), .ref (ob0 15), .ref (ob0 16), .ref (ob0 17), .ref (ob0 18), .ref (ad0 0), .ref (ad0 1), .int (Md_length s0)])), ((ob0 1), .inl (cA 1, (Md_kinds s0).1, .inl (Md_kinds s0).2)), ((ob0 2), .inl (cA 0, (Md_values s0).1, .inl (Md_values s0).2)), ((ob0 3), .inl (cA 0, (Md_firsts s0).1, .inl (Md_firsts s0).2)), ((ob0 4), .inl (cA 0, (Md_manies s0).1, .inl (Md_manies s0).2)), ((ob0 5), .inl (cA 2, (Md_said s0).1, .inl (Md_said s0).2)), ((ob0 6), .inl (cA 2, (Md_marked s0).1, .inl (Md_marked s0).2)), ((ob0 7), .inl (cA 0, (Md_leaders s0).1, .inl (Md_leaders s0).2)), ((ob0 8), .inl (cA 0, (Md_trial s0).1, .inl (Md_trial s0).2)), ((ob0 9), .inl (cA 0, (Md_shown s0).1, .inl (Md_shown s0).2)), ((ob0 10), .inl (cA 0, (Md_features s0).1, .inl (Md_features s0).2)), ((ob0 11), .inl (cA 0, (Md_parts s0).1, .inl (Md_parts s0).2)), ((ob0 12), .inl (cA 0, (Md_pushedFeatures s0).1, .inl (Md_pushedFeatures s0).2)), ((ob0 13), .inl (cA 0, (Md_pushedParts s0).1, .inl (Md_pushedParts s0).2)), ((ob0 14), .inl (cA 0, (Md_touched s0).1, .inl (Md_touched s0).2)), ((ob0 15), .inl (cA 0, (Md_reached s0).1, .inl (Md_reached s0).2)), ((ob0 16), .inl (cA 0, (Md_blocks s0).1, .inl (Md_blocks s0).2)), ((ob0 17), .inl (cA 0, (Md_newBlocks s0).1, .inl (Md_newBlocks s0).2)), ((ob0 18), .inl (cA 0, (Md_places s0).1, .inl (Md_places s0).2)), ((ad0 0), .inl (cA 0, (Md_written s0).1, .inl (Md_written s0).2)), ((ad0 1), .inl (cA 0, (Md_other s0).1, .inl (Md_other s0).2))]) (st' := [.int o50]) rfl rfl ?_
            refine x_if_ne F 100 d_Md_follow_95 (by decide) (fun c55 => ?_) (fun c55 => ?_)
            · replace hm := xm_f hm c55
              refine x_aload_n F d_Md_follow_100 1 rfl rfl ?_
              refine x_get F ck_Md hin_Md 0 0 rfl (by decide) kw_634 rfl rfl d_Md_follow_101 ?_
              refine x_iload_n F d_Md_follow_104 4 rfl rfl ?_
              replace hm := xm_rd_some hm
              obtain ⟨v56, e_v56, b_v56, hm⟩ := hm
              refine x_bald (x := (Md_kinds s0)) F 1 rfl e_v56 b_v56 d_Md_follow_105 ?_
              refine x_iconst (v := (3 : Int32)) F d_Md_follow_106 (by decide) ?_
              refine x_icmp_ne F 167 d_Md_follow_107 (by decide) (fun c57 => ?_) (fun c57 => ?_)
              · replace hm := xm_f hm c57
                refine x_iload_n F d_Md_follow_167 3 rfl rfl ?_
                refine x_if_eq F 174 d_Md_follow_168 (by decide) (fun c58 => ?_) (fun c58 => ?_)
                · replace hm := xm_t hm c58
                  refine x_iinc (v := (x3 + 1)) (lv' := [(3, .int (x3 + 1)), (4, .int v48), (0, .ref (ob0 0)), (1, .ref (ob0 8)), (2, .int x2)]) F d_Md_follow_174 4 rfl rfl (by decide) rfl ?_
                  refine x_goto F 33 d_Md_follow_177 (by decide) ?_
                  refine x_sub [0, 1, 2, 3, 4, 5, 6, 7, 8, 9, 10, 11, 12, 13, 14, 15, 16, 17, 18, 19, 20] (by decide) ?_ (x_lv [2, 3, 4, 0] ?_ (ih x2 (x3 + 1) s0 ad0 _ _ out k52 hm (by omega) (by omega) (fun e he ad => x_cs (by omega) (by omega) (KX e he ad)) (fun r hr ad pc lv hn hd => x_cs (by omega) (by omega) (KR r hr ad pc lv hn hd))))
                  · rfl
                  · rfl
                · replace hm := xm_f hm c58
                  refine x_goto F 180 d_Md_follow_171 (by decide) ?_
                  replace hm := xm_p_some hm
                  obtain ⟨eo, c_o, d_o⟩ := hm
                  refine x_sub [0, 1, 2, 3, 4, 5, 6, 7, 8, 9, 10, 11, 12, 13, 14, 15, 16, 17, 18, 19, 20] (by decide) ?_ (x_lv [1, 2, 3, 4] ?_ (x_cs (by omega) (by omega) (KX _ eo ad0)))
                  · rfl
                  · rfl
              · replace hm := xm_t hm c57
                refine x_iconst (v := (0 : Int32)) F d_Md_follow_110 (by decide) ?_
                refine x_istore (lv' := [(5, .int (0 : Int32)), (4, .int v48), (0, .ref (ob0 0)), (1, .ref (ob0 8)), (2, .int x2), (3, .int x3)]) F d_Md_follow_111 (by decide) rfl ?_
                replace hm := xm_b_some hm
                obtain ⟨o70, k71, k72, h73, hm, c_o70, d_o70⟩ := hm
                refine x_sub [0, 1, 2, 3, 4, 5, 6, 7, 8, 9, 10, 11, 12, 13, 14, 15, 16, 17, 18, 19, 20] (by decide) ?_ (x_lv [2, 3, 4, 5, 1, 0] ?_ (wl_Md_follow_113 F n ob0 x3 v48  n x2 (0 : Int32) s0 ad0 _ _ o70 k71 h73 (by omega) (by omega) (fun ad74 => ?_)))
                · rfl
                · rfl
                refine x_nf2 (ws' := [((ob0 0), .inr (8, [.ref (ob0 1), .ref (ob0 2), .ref (ob0 3), .ref (ob0 4), .ref (ob0 5), .ref (ob0 6), .ref (ob0 7), .ref (ob0 8), .ref (ob0 9), .int (Md_end (o70.2.2)), .int (Md_nodes (o70.2.2)), .ref (ob0 10), .ref (ob0 11), .int (Md_fields (o70.2.2)), .ref (ob0 12), .ref (ob0 13), .int (Md_pushed (o70.2.2)), .ref (ob0 14), .int (Md_touches (o70.2.2)), .ref (ob0 15), .ref (ob0 16), .ref (ob0 17), .ref (ob0 18), .ref (ad74 0), .ref (ad74 1), .int (Md_length (o70.2.2))])), ((ob0 1), .inl (cA 1, (Md_kinds (o70.2.2)).1, .inl (Md_kinds (o70.2.2)).2)), ((ob0 2), .inl (cA 0, (Md_values (o70.2.2)).1, .inl (Md_values (o70.2.2)).2)), ((ob0 3), .inl (cA 0, (Md_firsts (o70.2.2)).1, .inl (Md_firsts (o70.2.2)).2)), ((ob0 4), .inl (cA 0, (Md_manies (o70.2.2)).1, .inl (Md_manies (o70.2.2)).2)), ((ob0 5), .inl (cA 2, (Md_said (o70.2.2)).1, .inl (Md_said (o70.2.2)).2)), ((ob0 6), .inl (cA 2, (Md_marked (o70.2.2)).1, .inl (Md_marked (o70.2.2)).2)), ((ob0 7), .inl (cA 0, (Md_leaders (o70.2.2)).1, .inl (Md_leaders (o70.2.2)).2)), ((ob0 8), .inl (cA 0, (Md_trial (o70.2.2)).1, .inl (Md_trial (o70.2.2)).2)), ((ob0 9), .inl (cA 0, (Md_shown (o70.2.2)).1, .inl (Md_shown (o70.2.2)).2)), ((ob0 10), .inl (cA 0, (Md_features (o70.2.2)).1, .inl (Md_features (o70.2.2)).2)), ((ob0 11), .inl (cA 0, (Md_parts (o70.2.2)).1, .inl (Md_parts (o70.2.2)).2)), ((ob0 12), .inl (cA 0, (Md_pushedFeatures (o70.2.2)).1, .inl (Md_pushedFeatures (o70.2.2)).2)), ((ob0 13), .inl (cA 0, (Md_pushedParts (o70.2.2)).1, .inl (Md_pushedParts (o70.2.2)).2)), ((ob0 14), .inl (cA 0, (Md_touched (o70.2.2)).1, .inl (Md_touched (o70.2.2)).2)), ((ob0 15), .inl (cA 0, (Md_reached (o70.2.2)).1, .inl (Md_reached (o70.2.2)).2)), ((ob0 16), .inl (cA 0, (Md_blocks (o70.2.2)).1, .inl (Md_blocks (o70.2.2)).2)), ((ob0 17), .inl (cA 0, (Md_newBlocks (o70.2.2)).1, .inl (Md_newBlocks (o70.2.2)).2)), ((ob0 18), .inl (cA 0, (Md_places (o70.2.2)).1, .inl (Md_places (o70.2.2)).2)), ((ad74 0), .inl (cA 0, (Md_written (o70.2.2)).1, .inl (Md_written (o70.2.2)).2)), ((ad74 1), .inl (cA 0, (Md_other (o70.2.2)).1, .inl (Md_other (o70.2.2)).2))]) (lv' := [(0, .ref (ob0 0)), (1, .ref (ob0 8)), (2, .int (o70.1)), (3, .int x3), (4, .int v48), (5, .int (o70.2.1))]) rfl rfl ?_
                refine x_iload_n F d_Md_follow_167 2 rfl rfl ?_
                refine x_if_eq F 174 d_Md_follow_168 (by decide) (fun c75 => ?_) (fun c75 => ?_)
                · replace hm := xm_t hm c75
                  refine x_iinc (v := (x3 + 1)) (lv' := [(3, .int (x3 + 1)), (0, .ref (ob0 0)), (1, .ref (ob0 8)), (2, .int (o70.1)), (4, .int v48), (5, .int (o70.2.1))]) F d_Md_follow_174 3 rfl rfl (by decide) rfl ?_
                  refine x_goto F 33 d_Md_follow_177 (by decide) ?_
                  refine x_sub [0, 1, 2, 3, 4, 5, 6, 7, 8, 9, 10, 11, 12, 13, 14, 15, 16, 17, 18, 19, 20] (by decide) ?_ (x_lv [1, 2, 3, 0] ?_ (ih (o70.1) (x3 + 1) (o70.2.2) ad74 _ _ out k72 hm (by omega) (by omega) (fun e he ad => x_cs (by omega) (by omega) (KX e he ad)) (fun r hr ad pc lv hn hd => x_cs (by omega) (by omega) (KR r hr ad pc lv hn hd))))
                  · rfl
                  · rfl
                · replace hm := xm_f hm c75
                  refine x_goto F 180 d_Md_follow_171 (by decide) ?_
                  replace hm := xm_p_some hm
                  obtain ⟨eo, c_o, d_o⟩ := hm
                  refine x_sub [0, 1, 2, 3, 4, 5, 6, 7, 8, 9, 10, 11, 12, 13, 14, 15, 16, 17, 18, 19, 20] (by decide) ?_ (x_lv [0, 1, 2, 3] ?_ (x_cs (by omega) (by omega) (KX _ eo ad74)))
                  · rfl
                  · rfl
            · replace hm := xm_t hm c55
              refine x_iconst (v := (0 : Int32)) F d_Md_follow_98 (by decide) ?_
              replace hm := xm_p_some hm
              obtain ⟨eo, c_o, d_o⟩ := hm
              refine x_sub [0, 1, 2, 3, 4, 5, 6, 7, 8, 9, 10, 11, 12, 13, 14, 15, 16, 17, 18, 19, 20] (by decide) ?_ (x_cs (by omega) (by omega) (KR _ eo ad0 _ _ xz_0 d_Md_follow_99))
              rfl
          · replace hm := xm_t hm c49
            refine x_aload_n F d_Md_follow_76 1 rfl rfl ?_
            refine x_get F ck_Md hin_Md 0 8 rfl (by decide) kw_642 rfl rfl d_Md_follow_77 ?_
            refine x_aload_n F d_Md_follow_80 2 rfl rfl ?_
            refine x_iload_n F d_Md_follow_81 4 rfl rfl ?_
            replace hm := xm_rd_some hm
            obtain ⟨v76, e_v76, b_v76, hm⟩ := hm
            refine x_iald (x := (Md_trial s0)) F 8 rfl e_v76 b_v76 d_Md_follow_82 ?_
            refine x_iload_n F d_Md_follow_83 4 rfl rfl ?_
            replace hm := xm_wr_some hm
            obtain ⟨a77, e_a77, b_a77, hm⟩ := hm
            refine x_iast (x := (Md_shown s0)) (x' := a77) (ws' := [((ob0 0), .inr (8, [.ref (ob0 1), .ref (ob0 2), .ref (ob0 3), .ref (ob0 4), .ref (ob0 5), .ref (ob0 6), .ref (ob0 7), .ref (ob0 8), .ref (ob0 9), .int (Md_end s0), .int (Md_nodes s0), .ref (ob0 10), .ref (ob0 11), .int (Md_fields s0), .ref (ob0 12), .ref (ob0 13), .int (Md_pushed s0), .ref (ob0 14), .int (Md_touches s0), .ref (ob0 15), .ref (ob0 16), .ref (ob0 17), .ref (ob0 18), .ref (ad0 0), .ref (ad0 1), .int (Md_length s0)])), ((ob0 1), .inl (cA 1, (Md_kinds s0).1, .inl (Md_kinds s0).2)), ((ob0 2), .inl (cA 0, (Md_values s0).1, .inl (Md_values s0).2)), ((ob0 3), .inl (cA 0, (Md_firsts s0).1, .inl (Md_firsts s0).2)), ((ob0 4), .inl (cA 0, (Md_manies s0).1, .inl (Md_manies s0).2)), ((ob0 5), .inl (cA 2, (Md_said s0).1, .inl (Md_said s0).2)), ((ob0 6), .inl (cA 2, (Md_marked s0).1, .inl (Md_marked s0).2)), ((ob0 7), .inl (cA 0, (Md_leaders s0).1, .inl (Md_leaders s0).2)), ((ob0 8), .inl (cA 0, (Md_trial s0).1, .inl (Md_trial s0).2)), ((ob0 9), .inl (cA 0, a77.1, .inl a77.2)), ((ob0 10), .inl (cA 0, (Md_features s0).1, .inl (Md_features s0).2)), ((ob0 11), .inl (cA 0, (Md_parts s0).1, .inl (Md_parts s0).2)), ((ob0 12), .inl (cA 0, (Md_pushedFeatures s0).1, .inl (Md_pushedFeatures s0).2)), ((ob0 13), .inl (cA 0, (Md_pushedParts s0).1, .inl (Md_pushedParts s0).2)), ((ob0 14), .inl (cA 0, (Md_touched s0).1, .inl (Md_touched s0).2)), ((ob0 15), .inl (cA 0, (Md_reached s0).1, .inl (Md_reached s0).2)), ((ob0 16), .inl (cA 0, (Md_blocks s0).1, .inl (Md_blocks s0).2)), ((ob0 17), .inl (cA 0, (Md_newBlocks s0).1, .inl (Md_newBlocks s0).2)), ((ob0 18), .inl (cA 0, (Md_places s0).1, .inl (Md_places s0).2)), ((ad0 0), .inl (cA 0, (Md_written s0).1, .inl (Md_written s0).2)), ((ad0 1), .inl (cA 0, (Md_other s0).1, .inl (Md_other s0).2))]) F 9 rfl e_a77 b_a77 rfl d_Md_follow_84 ?_
            refine x_goto F 167 d_Md_follow_85 (by decide) ?_
            refine x_iload_n F d_Md_follow_167 3 rfl rfl ?_
            refine x_if_eq F 174 d_Md_follow_168 (by decide) (fun c78 => ?_) (fun c78 => ?_)
            · replace hm := xm_t hm c78
              refine x_iinc (v := (x3 + 1)) (lv' := [(3, .int (x3 + 1)), (4, .int v48), (0, .ref (ob0 0)), (1, .ref (ob0 8)), (2, .int x2)]) F d_Md_follow_174 4 rfl rfl (by decide) rfl ?_
              refine x_goto F 33 d_Md_follow_177 (by decide) ?_
              refine x_sub [0, 1, 2, 3, 4, 5, 6, 7, 8, 9, 10, 11, 12, 13, 14, 15, 16, 17, 18, 19, 20] (by decide) ?_ (x_lv [2, 3, 4, 0] ?_ (ih x2 (x3 + 1) ((Md_kinds s0), (Md_values s0), (Md_firsts s0), (Md_manies s0), (Md_said s0), (Md_marked s0), (Md_leaders s0), (Md_trial s0), a77, (Md_end s0), (Md_nodes s0), (Md_features s0), (Md_parts s0), (Md_fields s0), (Md_pushedFeatures s0), (Md_pushedParts s0), (Md_pushed s0), (Md_touched s0), (Md_touches s0), (Md_reached s0), (Md_blocks s0), (Md_newBlocks s0), (Md_places s0), (Md_written s0), (Md_other s0), (Md_length s0)) ad0 _ _ out k hm (by omega) (by omega) (fun e he ad => x_cs (by omega) (by omega) (KX e he ad)) (fun r hr ad pc lv hn hd => x_cs (by omega) (by omega) (KR r hr ad pc lv hn hd))))
              · rfl
              · rfl
            · replace hm := xm_f hm c78
              refine x_goto F 180 d_Md_follow_171 (by decide) ?_
              replace hm := xm_p_some hm
              obtain ⟨eo, c_o, d_o⟩ := hm
              refine x_sub [0, 1, 2, 3, 4, 5, 6, 7, 8, 9, 10, 11, 12, 13, 14, 15, 16, 17, 18, 19, 20] (by decide) ?_ (x_lv [1, 2, 3, 4] ?_ (x_cs (by omega) (by omega) (KX _ eo ad0)))
              · rfl
              · rfl
set_option maxHeartbeats 4000000 in
set_option maxRecDepth 100000 in
theorem wl_Md_follow_2 {X : XT} {l : Launch} {D : va_G} {cA : Nat → ClassId} {mc ms : Nat} (F : XF X l D cA b_Md_follow 6 (some FieldType.boolean) R_Md 1 26 mc ms) (n : Nat) (ob0 : Nat → Nat)   : ∀ (i : Nat) (x2 : Int32) (s0 : S_Md) (ad0 : Nat → Nat) (nc ns : Nat) (out : (Int32 × S_Md) ⊕ (Int32 × S_Md)) (k : KC), L_Md_follow_2  n i x2 s0 = some (out, k) → nc + k.1 ≤ mc → ns + k.2 ≤ ms → (∀ e : Int32 × S_Md, out = Sum.inl e → ∀ ad : Nat → Nat, XW X 6 ((w_Md cA ob0 ad  (e.2))) (nc + k.1) (ns + k.2) 183 [(0, .ref (ob0 0)), (1, .ref (ob0 8)), (2, .int (e.1))] []) → (∀ r : Int32 × S_Md, out = Sum.inr r → ∀ (ad : Nat → Nat) (pc : Nat) (lv : List (Nat × Value)), narrow .boolean (.int (r.1)) = .int (r.1) → decode b_Md_follow pc = .ok (.ireturn, 1) → XW X 6 ((w_Md cA ob0 ad  (r.2))) (nc + k.1) (ns + k.2) pc lv [.int (r.1)]) → XW X 6 ((w_Md cA ob0 ad0  s0)) nc ns 2 [(0, .ref (ob0 0)), (1, .ref (ob0 8)), (2, .int x2)] [] := by
  intro i
  induction i with
  | zero =>
    intro x2 s0 ad0 nc ns out k hm
    replace hm : (none : MO ((Int32 × S_Md) ⊕ (Int32 × S_Md))) = some (out, k) := hm
    cases hm
  | succ i ih =>
    intro x2 s0 ad0 nc ns out k hm hc hs KX KR
    rw [L_Md_follow_2_s] at hm
    refine x_ws (ws' := [((ob0 0), .inr (8, [.ref (ob0 1), .ref (ob0 2), .ref (ob0 3), .ref (ob0 4), .ref (ob0 5), .ref (ob0 6), .ref (ob0 7), .ref (ob0 8), .ref (ob0 9), .int (Md_end s0), .int (Md_nodes s0), .ref (ob0 10), .ref (ob0 11), .int (Md_fields s0), .ref (ob0 12), .ref (ob0 13), .int (Md_pushed s0), .ref (ob0 14), .int (Md_touches s0), .ref (ob0 15), .ref (ob0 16), .ref (ob0 17), .ref (ob0 18), .ref (ad0 0), .ref (ad0 1), .int (Md_length s0)])), ((ob0 1), .inl (cA 1, (Md_kinds s0).1, .inl (Md_kinds s0).2)), ((ob0 2), .inl (cA 0, (Md_values s0).1, .inl (Md_values s0).2)), ((ob0 3), .inl (cA 0, (Md_firsts s0).1, .inl (Md_firsts s0).2)), ((ob0 4), .inl (cA 0, (Md_manies s0).1, .inl (Md_manies s0).2)), ((ob0 5), .inl (cA 2, (Md_said s0).1, .inl (Md_said s0).2)), ((ob0 6), .inl (cA 2, (Md_marked s0).1, .inl (Md_marked s0).2)), ((ob0 7), .inl (cA 0, (Md_leaders s0).1, .inl (Md_leaders s0).2)), ((ob0 8), .inl (cA 0, (Md_trial s0).1, .inl (Md_trial s0).2)), ((ob0 9), .inl (cA 0, (Md_shown s0).1, .inl (Md_shown s0).2)), ((ob0 10), .inl (cA 0, (Md_features s0).1, .inl (Md_features s0).2)), ((ob0 11), .inl (cA 0, (Md_parts s0).1, .inl (Md_parts s0).2)), ((ob0 12), .inl (cA 0, (Md_pushedFeatures s0).1, .inl (Md_pushedFeatures s0).2)), ((ob0 13), .inl (cA 0, (Md_pushedParts s0).1, .inl (Md_pushedParts s0).2)), ((ob0 14), .inl (cA 0, (Md_touched s0).1, .inl (Md_touched s0).2)), ((ob0 15), .inl (cA 0, (Md_reached s0).1, .inl (Md_reached s0).2)), ((ob0 16), .inl (cA 0, (Md_blocks s0).1, .inl (Md_blocks s0).2)), ((ob0 17), .inl (cA 0, (Md_newBlocks s0).1, .inl (Md_newBlocks s0).2)), ((ob0 18), .inl (cA 0, (Md_places s0).1, .inl (Md_places s0).2)), ((ad0 0), .inl (cA 0, (Md_written s0).1, .inl (Md_written s0).2)), ((ad0 1), .inl (cA 0, (Md_other s0).1, .inl (Md_other s0).2))]) rfl ?_
    refine x_iload_n F d_Md_follow_2 2 rfl rfl ?_
    refine x_if_eq F 183 d_Md_follow_3 (by decide) (fun c34 => ?_) (fun c34 => ?_)
    · replace hm := xm_t hm c34
      replace hm := xm_p_some hm
      obtain ⟨eo, c_o, d_o⟩ := hm
      refine x_sub [0, 1, 2, 3, 4, 5, 6, 7, 8, 9, 10, 11, 12, 13, 14, 15, 16, 17, 18, 19, 20] (by decide) ?_ (x_lv [0, 1, 2] ?_ (x_cs (by omega) (by omega) (KX _ eo ad0)))
      · rfl
      · rfl
    · replace hm := xm_f hm c34
      refine x_iconst (v := (0 : Int32)) F d_Md_follow_6 (by decide) ?_
      refine x_istore_n (lv' := [(2, .int (0 : Int32)), (0, .ref (ob0 0)), (1, .ref (ob0 8))]) F d_Md_follow_7 rfl (by decide) rfl ?_
      refine x_iconst (v := (0 : Int32)) F d_Md_follow_8 (by decide) ?_
      refine x_istore_n (lv' := [(3, .int (0 : Int32)), (2, .int (0 : Int32)), (0, .ref (ob0 0)), (1, .ref (ob0 8))]) F d_Md_follow_9 rfl (by decide) rfl ?_
      replace hm := xm_b_some hm
      obtain ⟨o37, k38, k39, h40, hm, c_o37, d_o37⟩ := hm
      refine x_sub [0, 1, 2, 3, 4, 5, 6, 7, 8, 9, 10, 11, 12, 13, 14, 15, 16, 17, 18, 19, 20] (by decide) ?_ (x_lv [2, 3, 1, 0] ?_ (wl_Md_follow_10 F n ob0 (0 : Int32)  n (0 : Int32) s0 ad0 _ _ o37 k38 h40 (by omega) (by omega) (fun ad41 => ?_)))
      · rfl
      · rfl
      refine x_nf2 (ws' := [((ob0 0), .inr (8, [.ref (ob0 1), .ref (ob0 2), .ref (ob0 3), .ref (ob0 4), .ref (ob0 5), .ref (ob0 6), .ref (ob0 7), .ref (ob0 8), .ref (ob0 9), .int (Md_end (o37.2)), .int (Md_nodes (o37.2)), .ref (ob0 10), .ref (ob0 11), .int (Md_fields (o37.2)), .ref (ob0 12), .ref (ob0 13), .int (Md_pushed (o37.2)), .ref (ob0 14), .int (Md_touches (o37.2)), .ref (ob0 15), .ref (ob0 16), .ref (ob0 17), .ref (ob0 18), .ref (ad41 0), .ref (ad41 1), .int (Md_length (o37.2))])), ((ob0 1), .inl (cA 1, (Md_kinds (o37.2)).1, .inl (Md_kinds (o37.2)).2)), ((ob0 2), .inl (cA 0, (Md_values (o37.2)).1, .inl (Md_values (o37.2)).2)), ((ob0 3), .inl (cA 0, (Md_firsts (o37.2)).1, .inl (Md_firsts (o37.2)).2)), ((ob0 4), .inl (cA 0, (Md_manies (o37.2)).1, .inl (Md_manies (o37.2)).2)), ((ob0 5), .inl (cA 2, (Md_said (o37.2)).1, .inl (Md_said (o37.2)).2)), ((ob0 6), .inl (cA 2, (Md_marked (o37.2)).1, .inl (Md_marked (o37.2)).2)), ((ob0 7), .inl (cA 0, (Md_leaders (o37.2)).1, .inl (Md_leaders (o37.2)).2)), ((ob0 8), .inl (cA 0, (Md_trial (o37.2)).1, .inl (Md_trial (o37.2)).2)), ((ob0 9), .inl (cA 0, (Md_shown (o37.2)).1, .inl (Md_shown (o37.2)).2)), ((ob0 10), .inl (cA 0, (Md_features (o37.2)).1, .inl (Md_features (o37.2)).2)), ((ob0 11), .inl (cA 0, (Md_parts (o37.2)).1, .inl (Md_parts (o37.2)).2)), ((ob0 12), .inl (cA 0, (Md_pushedFeatures (o37.2)).1, .inl (Md_pushedFeatures (o37.2)).2)), ((ob0 13), .inl (cA 0, (Md_pushedParts (o37.2)).1, .inl (Md_pushedParts (o37.2)).2)), ((ob0 14), .inl (cA 0, (Md_touched (o37.2)).1, .inl (Md_touched (o37.2)).2)), ((ob0 15), .inl (cA 0, (Md_reached (o37.2)).1, .inl (Md_reached (o37.2)).2)), ((ob0 16), .inl (cA 0, (Md_blocks (o37.2)).1, .inl (Md_blocks (o37.2)).2)), ((ob0 17), .inl (cA 0, (Md_newBlocks (o37.2)).1, .inl (Md_newBlocks (o37.2)).2)), ((ob0 18), .inl (cA 0, (Md_places (o37.2)).1, .inl (Md_places (o37.2)).2)), ((ad41 0), .inl (cA 0, (Md_written (o37.2)).1, .inl (Md_written (o37.2)).2)), ((ad41 1), .inl (cA 0, (Md_other (o37.2)).1, .inl (Md_other (o37.2)).2))]) (lv' := [(0, .ref (ob0 0)), (1, .ref (ob0 8)), (2, .int (0 : Int32)), (3, .int (o37.1))]) rfl rfl ?_
      refine x_iconst (v := (0 : Int32)) F d_Md_follow_31 (by decide) ?_
      refine x_istore_n (lv' := [(3, .int (0 : Int32)), (0, .ref (ob0 0)), (1, .ref (ob0 8)), (2, .int (0 : Int32))]) F d_Md_follow_32 rfl (by decide) rfl ?_
      replace hm := xm_b_some hm
      obtain ⟨o79, k80, k81, h82, hm, c_o79, d_o79⟩ := hm
      refine x_sub [0, 1, 2, 3, 4, 5, 6, 7, 8, 9, 10, 11, 12, 13, 14, 15, 16, 17, 18, 19, 20] (by decide) ?_ (x_lv [1, 2, 3, 0] ?_ (wl_Md_follow_33 F n ob0   n (0 : Int32) (0 : Int32) (o37.2) ad41 _ _ o79 k80 h82 (by omega) (by omega) (fun e84 h86 ad83 => ?_) (fun r85 h86 ad83 pc lv hn hd => ?_)))
      · rfl
      · rfl
      · subst h86
        replace hm := xm_inl hm
        refine x_nf2 (ws' := [((ob0 0), .inr (8, [.ref (ob0 1), .ref (ob0 2), .ref (ob0 3), .ref (ob0 4), .ref (ob0 5), .ref (ob0 6), .ref (ob0 7), .ref (ob0 8), .ref (ob0 9), .int (Md_end (e84.2.2)), .int (Md_nodes (e84.2.2)), .ref (ob0 10), .ref (ob0 11), .int (Md_fields (e84.2.2)), .ref (ob0 12), .ref (ob0 13), .int (Md_pushed (e84.2.2)), .ref (ob0 14), .int (Md_touches (e84.2.2)), .ref (ob0 15), .ref (ob0 16), .ref (ob0 17), .ref (ob0 18), .ref (ad83 0), .ref (ad83 1), .int (Md_length (e84.2.2))])), ((ob0 1), .inl (cA 1, (Md_kinds (e84.2.2)).1, .inl (Md_kinds (e84.2.2)).2)), ((ob0 2), .inl (cA 0, (Md_values (e84.2.2)).1, .inl (Md_values (e84.2.2)).2)), ((ob0 3), .inl (cA 0, (Md_firsts (e84.2.2)).1, .inl (Md_firsts (e84.2.2)).2)), ((ob0 4), .inl (cA 0, (Md_manies (e84.2.2)).1, .inl (Md_manies (e84.2.2)).2)), ((ob0 5), .inl (cA 2, (Md_said (e84.2.2)).1, .inl (Md_said (e84.2.2)).2)), ((ob0 6), .inl (cA 2, (Md_marked (e84.2.2)).1, .inl (Md_marked (e84.2.2)).2)), ((ob0 7), .inl (cA 0, (Md_leaders (e84.2.2)).1, .inl (Md_leaders (e84.2.2)).2)), ((ob0 8), .inl (cA 0, (Md_trial (e84.2.2)).1, .inl (Md_trial (e84.2.2)).2)), ((ob0 9), .inl (cA 0, (Md_shown (e84.2.2)).1, .inl (Md_shown (e84.2.2)).2)), ((ob0 10), .inl (cA 0, (Md_features (e84.2.2)).1, .inl (Md_features (e84.2.2)).2)), ((ob0 11), .inl (cA 0, (Md_parts (e84.2.2)).1, .inl (Md_parts (e84.2.2)).2)), ((ob0 12), .inl (cA 0, (Md_pushedFeatures (e84.2.2)).1, .inl (Md_pushedFeatures (e84.2.2)).2)), ((ob0 13), .inl (cA 0, (Md_pushedParts (e84.2.2)).1, .inl (Md_pushedParts (e84.2.2)).2)), ((ob0 14), .inl (cA 0, (Md_touched (e84.2.2)).1, .inl (Md_touched (e84.2.2)).2)), ((ob0 15), .inl (cA 0, (Md_reached (e84.2.2)).1, .inl (Md_reached (e84.2.2)).2)), ((ob0 16), .inl (cA 0, (Md_blocks (e84.2.2)).1, .inl (Md_blocks (e84.2.2)).2)), ((ob0 17), .inl (cA 0, (Md_newBlocks (e84.2.2)).1, .inl (Md_newBlocks (e84.2.2)).2)), ((ob0 18), .inl (cA 0, (Md_places (e84.2.2)).1, .inl (Md_places (e84.2.2)).2)), ((ad83 0), .inl (cA 0, (Md_written (e84.2.2)).1, .inl (Md_written (e84.2.2)).2)), ((ad83 1), .inl (cA 0, (Md_other (e84.2.2)).1, .inl (Md_other (e84.2.2)).2))]) (lv' := [(0, .ref (ob0 0)), (1, .ref (ob0 8)), (2, .int (e84.1)), (3, .int (e84.2.1))]) rfl rfl ?_
        refine x_goto F 2 d_Md_follow_180 (by decide) ?_
        refine x_sub [0, 1, 2, 3, 4, 5, 6, 7, 8, 9, 10, 11, 12, 13, 14, 15, 16, 17, 18, 19, 20] (by decide) ?_ (x_lv [0, 1, 2] ?_ (ih (e84.1) (e84.2.2) ad83 _ _ out k81 hm (by omega) (by omega) (fun e he ad => x_cs (by omega) (by omega) (KX e he ad)) (fun r hr ad pc lv hn hd => x_cs (by omega) (by omega) (KR r hr ad pc lv hn hd))))
        · rfl
        · rfl
      · subst h86
        replace hm := xm_inr hm
        replace hm := xm_p_some hm
        obtain ⟨eo, c_o, d_o⟩ := hm
        exact x_cs (by omega) (by omega) (KR _ eo ad83 _ _ hn hd)
set_option maxHeartbeats 4000000 in
set_option maxRecDepth 100000 in
theorem c_Md_follow (l : Launch) (D : va_G) (cA : Nat → ClassId) (n : Nat) (ob0 ad0 : Nat → Nat) (s0 : S_Md)  (out : Int32 × S_Md) (k : KC) (hm : m_Md_follow n s0  = some (out, k)) : XM l D cA y_Md_follow b_Md_follow 6 (some FieldType.boolean) 1 26 [.ref (ob0 0), .ref (ob0 8)] ((w_Md cA ob0 ad0  s0)) k (fun _ => some (.int (out.1))) (fun ad => (w_Md cA ob0 ad  (out.2))) := by
  refine x_met (cc := b_Md_follow) (nL := 6) (ret := (some FieldType.boolean)) R_Md (by decide) (Nat.le_of_ble_eq_true rfl) rfl (fun X F I E => ?_)
  unfold m_Md_follow at hm
  refine x_nf2 (ws' := [((ob0 0), .inr (8, [.ref (ob0 1), .ref (ob0 2), .ref (ob0 3), .ref (ob0 4), .ref (ob0 5), .ref (ob0 6), .ref (ob0 7), .ref (ob0 8), .ref (ob0 9), .int (Md_end s0), .int (Md_nodes s0), .ref (ob0 10), .ref (ob0 11), .int (Md_fields s0), .ref (ob0 12), .ref (ob0 13), .int (Md_pushed s0), .ref (ob0 14), .int (Md_touches s0), .ref (ob0 15), .ref (ob0 16), .ref (ob0 17), .ref (ob0 18), .ref (ad0 0), .ref (ad0 1), .int (Md_length s0)])), ((ob0 1), .inl (cA 1, (Md_kinds s0).1, .inl (Md_kinds s0).2)), ((ob0 2), .inl (cA 0, (Md_values s0).1, .inl (Md_values s0).2)), ((ob0 3), .inl (cA 0, (Md_firsts s0).1, .inl (Md_firsts s0).2)), ((ob0 4), .inl (cA 0, (Md_manies s0).1, .inl (Md_manies s0).2)), ((ob0 5), .inl (cA 2, (Md_said s0).1, .inl (Md_said s0).2)), ((ob0 6), .inl (cA 2, (Md_marked s0).1, .inl (Md_marked s0).2)), ((ob0 7), .inl (cA 0, (Md_leaders s0).1, .inl (Md_leaders s0).2)), ((ob0 8), .inl (cA 0, (Md_trial s0).1, .inl (Md_trial s0).2)), ((ob0 9), .inl (cA 0, (Md_shown s0).1, .inl (Md_shown s0).2)), ((ob0 10), .inl (cA 0, (Md_features s0).1, .inl (Md_features s0).2)), ((ob0 11), .inl (cA 0, (Md_parts s0).1, .inl (Md_parts s0).2)), ((ob0 12), .inl (cA 0, (Md_pushedFeatures s0).1, .inl (Md_pushedFeatures s0).2)), ((ob0 13), .inl (cA 0, (Md_pushedParts s0).1, .inl (Md_pushedParts s0).2)), ((ob0 14), .inl (cA 0, (Md_touched s0).1, .inl (Md_touched s0).2)), ((ob0 15), .inl (cA 0, (Md_reached s0).1, .inl (Md_reached s0).2)), ((ob0 16), .inl (cA 0, (Md_blocks s0).1, .inl (Md_blocks s0).2)), ((ob0 17), .inl (cA 0, (Md_newBlocks s0).1, .inl (Md_newBlocks s0).2)), ((ob0 18), .inl (cA 0, (Md_places s0).1, .inl (Md_places s0).2)), ((ad0 0), .inl (cA 0, (Md_written s0).1, .inl (Md_written s0).2)), ((ad0 1), .inl (cA 0, (Md_other s0).1, .inl (Md_other s0).2))]) (lv' := [(0, .ref (ob0 0)), (1, .ref (ob0 8))]) rfl rfl ?_
  refine x_iconst (v := (1 : Int32)) F d_Md_follow_0 (by decide) ?_
  refine x_istore_n (lv' := [(2, .int (1 : Int32)), (0, .ref (ob0 0)), (1, .ref (ob0 8))]) F d_Md_follow_1 rfl (by decide) rfl ?_
  replace hm := xm_b_some hm
  obtain ⟨o87, k88, k89, h90, hm, c_o87, d_o87⟩ := hm
  refine x_sub [0, 1, 2, 3, 4, 5, 6, 7, 8, 9, 10, 11, 12, 13, 14, 15, 16, 17, 18, 19, 20] (by decide) ?_ (x_lv [1, 2, 0] ?_ (wl_Md_follow_2 F n ob0   n (1 : Int32) s0 ad0 _ _ o87 k88 h90 (by omega) (by omega) (fun e92 h94 ad91 => ?_) (fun r93 h94 ad91 pc lv hn hd => ?_)))
  · rfl
  · rfl
  · subst h94
    replace hm := xm_inl hm
    refine x_nf2 (ws' := [((ob0 0), .inr (8, [.ref (ob0 1), .ref (ob0 2), .ref (ob0 3), .ref (ob0 4), .ref (ob0 5), .ref (ob0 6), .ref (ob0 7), .ref (ob0 8), .ref (ob0 9), .int (Md_end (e92.2)), .int (Md_nodes (e92.2)), .ref (ob0 10), .ref (ob0 11), .int (Md_fields (e92.2)), .ref (ob0 12), .ref (ob0 13), .int (Md_pushed (e92.2)), .ref (ob0 14), .int (Md_touches (e92.2)), .ref (ob0 15), .ref (ob0 16), .ref (ob0 17), .ref (ob0 18), .ref (ad91 0), .ref (ad91 1), .int (Md_length (e92.2))])), ((ob0 1), .inl (cA 1, (Md_kinds (e92.2)).1, .inl (Md_kinds (e92.2)).2)), ((ob0 2), .inl (cA 0, (Md_values (e92.2)).1, .inl (Md_values (e92.2)).2)), ((ob0 3), .inl (cA 0, (Md_firsts (e92.2)).1, .inl (Md_firsts (e92.2)).2)), ((ob0 4), .inl (cA 0, (Md_manies (e92.2)).1, .inl (Md_manies (e92.2)).2)), ((ob0 5), .inl (cA 2, (Md_said (e92.2)).1, .inl (Md_said (e92.2)).2)), ((ob0 6), .inl (cA 2, (Md_marked (e92.2)).1, .inl (Md_marked (e92.2)).2)), ((ob0 7), .inl (cA 0, (Md_leaders (e92.2)).1, .inl (Md_leaders (e92.2)).2)), ((ob0 8), .inl (cA 0, (Md_trial (e92.2)).1, .inl (Md_trial (e92.2)).2)), ((ob0 9), .inl (cA 0, (Md_shown (e92.2)).1, .inl (Md_shown (e92.2)).2)), ((ob0 10), .inl (cA 0, (Md_features (e92.2)).1, .inl (Md_features (e92.2)).2)), ((ob0 11), .inl (cA 0, (Md_parts (e92.2)).1, .inl (Md_parts (e92.2)).2)), ((ob0 12), .inl (cA 0, (Md_pushedFeatures (e92.2)).1, .inl (Md_pushedFeatures (e92.2)).2)), ((ob0 13), .inl (cA 0, (Md_pushedParts (e92.2)).1, .inl (Md_pushedParts (e92.2)).2)), ((ob0 14), .inl (cA 0, (Md_touched (e92.2)).1, .inl (Md_touched (e92.2)).2)), ((ob0 15), .inl (cA 0, (Md_reached (e92.2)).1, .inl (Md_reached (e92.2)).2)), ((ob0 16), .inl (cA 0, (Md_blocks (e92.2)).1, .inl (Md_blocks (e92.2)).2)), ((ob0 17), .inl (cA 0, (Md_newBlocks (e92.2)).1, .inl (Md_newBlocks (e92.2)).2)), ((ob0 18), .inl (cA 0, (Md_places (e92.2)).1, .inl (Md_places (e92.2)).2)), ((ad91 0), .inl (cA 0, (Md_written (e92.2)).1, .inl (Md_written (e92.2)).2)), ((ad91 1), .inl (cA 0, (Md_other (e92.2)).1, .inl (Md_other (e92.2)).2))]) (lv' := [(0, .ref (ob0 0)), (1, .ref (ob0 8)), (2, .int (e92.1))]) rfl rfl ?_
    refine x_iconst (v := (1 : Int32)) F d_Md_follow_183 (by decide) ?_
    replace hm := xm_p_some hm
    obtain ⟨eo, c_o, d_o⟩ := hm
    subst eo
    refine x_sub [0, 1, 2, 3, 4, 5, 6, 7, 8, 9, 10, 11, 12, 13, 14, 15, 16, 17, 18, 19, 20] (by decide) ?_ (xe_i E ad91 (by omega) (by omega) rfl xz_1 d_Md_follow_184)
    rfl
  · subst h94
    replace hm := xm_inr hm
    replace hm := xm_p_some hm
    obtain ⟨eo, c_o, d_o⟩ := hm
    subst eo
    exact xe_i E ad91 (by omega) (by omega) rfl hn hd

noncomputable def m_Md_suppose (n : Nat) (s0 : S_Md) (p0 : Int32) (p1 : Int32) : MO (Int32 × S_Md) := (xm_cp (Md_leaders s0) (Md_trial s0) (0 : Int32) (0 : Int32) (Md_end s0) (fun a14 => (xm_b (m_Md_join n ((Md_kinds s0), (Md_values s0), (Md_firsts s0), (Md_manies s0), (Md_said s0), (Md_marked s0), (Md_leaders s0), a14, (Md_shown s0), (Md_end s0), (Md_nodes s0), (Md_features s0), (Md_parts s0), (Md_fields s0), (Md_pushedFeatures s0), (Md_pushedParts s0), (Md_pushed s0), (Md_touched s0), (Md_touches s0), (Md_reached s0), (Md_blocks s0), (Md_newBlocks s0), (Md_places s0), (Md_written s0), (Md_other s0), (Md_length s0)) p0 p1) (fun o15 => (if (o15.1) = 0 then (xm_p ((1 : Int32), (o15.2))) else (xm_b (m_Md_follow n (o15.2)) (fun o21 => (if (o21.1) = 0 then (xm_p ((0 : Int32), (o21.2))) else (xm_p ((1 : Int32), (o21.2)))))))))))
set_option maxHeartbeats 4000000 in
set_option maxRecDepth 100000 in
theorem c_Md_suppose (l : Launch) (D : va_G) (cA : Nat → ClassId) (n : Nat) (ob0 ad0 : Nat → Nat) (s0 : S_Md) (p0 : Int32) (p1 : Int32) (out : Int32 × S_Md) (k : KC) (hm : m_Md_suppose n s0 p0 p1 = some (out, k)) : XM l D cA y_Md_suppose b_Md_suppose 3 (some FieldType.boolean) 2 64 [.ref (ob0 0), .int p0, .int p1] ((w_Md cA ob0 ad0  s0)) k (fun _ => some (.int (out.1))) (fun ad => (w_Md cA ob0 ad  (out.2))) := by
  refine x_met (cc := b_Md_suppose) (nL := 3) (ret := (some FieldType.boolean)) R_Md (by decide) (Nat.le_of_ble_eq_true rfl) rfl (fun X F I E => ?_)
  unfold m_Md_suppose at hm
  refine x_nf2 (ws' := [((ob0 0), .inr (8, [.ref (ob0 1), .ref (ob0 2), .ref (ob0 3), .ref (ob0 4), .ref (ob0 5), .ref (ob0 6), .ref (ob0 7), .ref (ob0 8), .ref (ob0 9), .int (Md_end s0), .int (Md_nodes s0), .ref (ob0 10), .ref (ob0 11), .int (Md_fields s0), .ref (ob0 12), .ref (ob0 13), .int (Md_pushed s0), .ref (ob0 14), .int (Md_touches s0), .ref (ob0 15), .ref (ob0 16), .ref (ob0 17), .ref (ob0 18), .ref (ad0 0), .ref (ad0 1), .int (Md_length s0)])), ((ob0 1), .inl (cA 1, (Md_kinds s0).1, .inl (Md_kinds s0).2)), ((ob0 2), .inl (cA 0, (Md_values s0).1, .inl (Md_values s0).2)), ((ob0 3), .inl (cA 0, (Md_firsts s0).1, .inl (Md_firsts s0).2)), ((ob0 4), .inl (cA 0, (Md_manies s0).1, .inl (Md_manies s0).2)), ((ob0 5), .inl (cA 2, (Md_said s0).1, .inl (Md_said s0).2)), ((ob0 6), .inl (cA 2, (Md_marked s0).1, .inl (Md_marked s0).2)), ((ob0 7), .inl (cA 0, (Md_leaders s0).1, .inl (Md_leaders s0).2)), ((ob0 8), .inl (cA 0, (Md_trial s0).1, .inl (Md_trial s0).2)), ((ob0 9), .inl (cA 0, (Md_shown s0).1, .inl (Md_shown s0).2)), ((ob0 10), .inl (cA 0, (Md_features s0).1, .inl (Md_features s0).2)), ((ob0 11), .inl (cA 0, (Md_parts s0).1, .inl (Md_parts s0).2)), ((ob0 12), .inl (cA 0, (Md_pushedFeatures s0).1, .inl (Md_pushedFeatures s0).2)), ((ob0 13), .inl (cA 0, (Md_pushedParts s0).1, .inl (Md_pushedParts s0).2)), ((ob0 14), .inl (cA 0, (Md_touched s0).1, .inl (Md_touched s0).2)), ((ob0 15), .inl (cA 0, (Md_reached s0).1, .inl (Md_reached s0).2)), ((ob0 16), .inl (cA 0, (Md_blocks s0).1, .inl (Md_blocks s0).2)), ((ob0 17), .inl (cA 0, (Md_newBlocks s0).1, .inl (Md_newBlocks s0).2)), ((ob0 18), .inl (cA 0, (Md_places s0).1, .inl (Md_places s0).2)), ((ad0 0), .inl (cA 0, (Md_written s0).1, .inl (Md_written s0).2)), ((ad0 1), .inl (cA 0, (Md_other s0).1, .inl (Md_other s0).2))]) (lv' := [(0, .ref (ob0 0)), (1, .int p0), (2, .int p1)]) rfl rfl ?_
  refine x_aload_n F d_Md_suppose_0 0 rfl rfl ?_
  refine x_get F ck_Md hin_Md 0 6 rfl (by decide) kw_640 rfl rfl d_Md_suppose_1 ?_
  refine x_iconst (v := (0 : Int32)) F d_Md_suppose_4 (by decide) ?_
  refine x_aload_n F d_Md_suppose_5 0 rfl rfl ?_
  refine x_get F ck_Md hin_Md 0 7 rfl (by decide) kw_641 rfl rfl d_Md_suppose_6 ?_
  refine x_iconst (v := (0 : Int32)) F d_Md_suppose_9 (by decide) ?_
  refine x_aload_n F d_Md_suppose_10 0 rfl rfl ?_
  refine x_get F ck_Md hin_Md 0 9 rfl (by decide) kw_643 rfl rfl d_Md_suppose_11 ?_
  replace hm := xm_cp_some hm
  obtain ⟨a14, e_a14, b_a14, hm⟩ := hm
  refine x_copy (x := (Md_leaders s0)) (y := (Md_trial s0)) (y' := a14) (ws' := [((ob0 0), .inr (8, [.ref (ob0 1), .ref (ob0 2), .ref (ob0 3), .ref (ob0 4), .ref (ob0 5), .ref (ob0 6), .ref (ob0 7), .ref (ob0 8), .ref (ob0 9), .int (Md_end s0), .int (Md_nodes s0), .ref (ob0 10), .ref (ob0 11), .int (Md_fields s0), .ref (ob0 12), .ref (ob0 13), .int (Md_pushed s0), .ref (ob0 14), .int (Md_touches s0), .ref (ob0 15), .ref (ob0 16), .ref (ob0 17), .ref (ob0 18), .ref (ad0 0), .ref (ad0 1), .int (Md_length s0)])), ((ob0 1), .inl (cA 1, (Md_kinds s0).1, .inl (Md_kinds s0).2)), ((ob0 2), .inl (cA 0, (Md_values s0).1, .inl (Md_values s0).2)), ((ob0 3), .inl (cA 0, (Md_firsts s0).1, .inl (Md_firsts s0).2)), ((ob0 4), .inl (cA 0, (Md_manies s0).1, .inl (Md_manies s0).2)), ((ob0 5), .inl (cA 2, (Md_said s0).1, .inl (Md_said s0).2)), ((ob0 6), .inl (cA 2, (Md_marked s0).1, .inl (Md_marked s0).2)), ((ob0 7), .inl (cA 0, (Md_leaders s0).1, .inl (Md_leaders s0).2)), ((ob0 8), .inl (cA 0, a14.1, .inl a14.2)), ((ob0 9), .inl (cA 0, (Md_shown s0).1, .inl (Md_shown s0).2)), ((ob0 10), .inl (cA 0, (Md_features s0).1, .inl (Md_features s0).2)), ((ob0 11), .inl (cA 0, (Md_parts s0).1, .inl (Md_parts s0).2)), ((ob0 12), .inl (cA 0, (Md_pushedFeatures s0).1, .inl (Md_pushedFeatures s0).2)), ((ob0 13), .inl (cA 0, (Md_pushedParts s0).1, .inl (Md_pushedParts s0).2)), ((ob0 14), .inl (cA 0, (Md_touched s0).1, .inl (Md_touched s0).2)), ((ob0 15), .inl (cA 0, (Md_reached s0).1, .inl (Md_reached s0).2)), ((ob0 16), .inl (cA 0, (Md_blocks s0).1, .inl (Md_blocks s0).2)), ((ob0 17), .inl (cA 0, (Md_newBlocks s0).1, .inl (Md_newBlocks s0).2)), ((ob0 18), .inl (cA 0, (Md_places s0).1, .inl (Md_places s0).2)), ((ad0 0), .inl (cA 0, (Md_written s0).1, .inl (Md_written s0).2)), ((ad0 1), .inl (cA 0, (Md_other s0).1, .inl (Md_other s0).2))]) F kt_766_28 kt_332_4 kt_331_5 kw_50 7 8 rfl rfl b_a14 e_a14 rfl (by decide) (Nat.le_of_ble_eq_true rfl) d_Md_suppose_14 ?_
  refine x_aload_n F d_Md_suppose_17 0 rfl rfl ?_
  refine x_aload_n F d_Md_suppose_18 0 rfl rfl ?_
  refine x_get F ck_Md hin_Md 0 7 rfl (by decide) kw_641 rfl rfl d_Md_suppose_19 ?_
  refine x_iload_n F d_Md_suppose_22 1 rfl rfl ?_
  refine x_iload_n F d_Md_suppose_23 2 rfl rfl ?_
  replace hm := xm_b_some hm
  obtain ⟨o15, k16, k17, h18, hm, c_o15, d_o15⟩ := hm
  refine x_callV (n := 3) (C := R_Md) (wr := []) F (c_Md_join l D cA n ob0 ad0 ((Md_kinds s0), (Md_values s0), (Md_firsts s0), (Md_manies s0), (Md_said s0), (Md_marked s0), (Md_leaders s0), a14, (Md_shown s0), (Md_end s0), (Md_nodes s0), (Md_features s0), (Md_parts s0), (Md_fields s0), (Md_pushedFeatures s0), (Md_pushedParts s0), (Md_pushed s0), (Md_touched s0), (Md_touches s0), (Md_reached s0), (Md_blocks s0), (Md_newBlocks s0), (Md_places s0), (Md_written s0), (Md_other s0), (Md_length s0)) p0 p1 o15 k16 h18) kw_770 kw_767 kw_769 kw_23 kw_47 ⟨rfl, by decide, by decide, by decide +kernel⟩ rfl (by decide) (by decide) (ci := 8) rfl rfl 0 rfl [0, 1, 2, 3, 4, 5, 6, 7, 8, 9, 10, 11, 12, 13, 14, 15, 16, 17, 18, 19, 20] [] rfl rfl (by decide) (by decide) (by decide) rfl (Nat.le_of_ble_eq_true rfl) (by omega) (by omega) d_Md_suppose_24 (fun ad19 => ?_)
  refine x_nf (ws' := [((ob0 0), .inr (8, [.ref (ob0 1), .ref (ob0 2), .ref (ob0 3), .ref (ob0 4), .ref (ob0 5), .ref (ob0 6), .ref (ob0 7), .ref (ob0 8), .ref (ob0 9), .int (Md_end (o15.2)), .int (Md_nodes (o15.2)), .ref (ob0 10), .ref (ob0 11), .int (Md_fields (o15.2)), .ref (ob0 12), .ref (ob0 13), .int (Md_pushed (o15.2)), .ref (ob0 14), .int (Md_touches (o15.2)), .ref (ob0 15), .ref (ob0 16), .ref (ob0 17), .ref (ob0 18), .ref (ad19 0), .ref (ad19 1), .int (Md_length (o15.2))])), ((ob0 1), .inl (cA 1, (Md_kinds (o15.2)).1, .inl (Md_kinds (o15.2)).2)), ((ob0 2), .inl (cA 0, (Md_values (o15.2)).1, .inl (Md_values (o15.2)).2)), ((ob0 3), .inl (cA 0, (Md_firsts (o15.2)).1, .inl (Md_firsts (o15.2)).2)), ((ob0 4), .inl (cA 0, (Md_manies (o15.2)).1, .inl (Md_manies (o15.2)).2)), ((ob0 5), .inl (cA 2, (Md_said (o15.2)).1, .inl (Md_said (o15.2)).2)), ((ob0 6), .inl (cA 2, (Md_marked (o15.2)).1, .inl (Md_marked (o15.2)).2)), ((ob0 7), .inl (cA 0, (Md_leaders (o15.2)).1, .inl (Md_leaders (o15.2)).2)), ((ob0 8), .inl (cA 0, (Md_trial (o15.2)).1, .inl (Md_trial (o15.2)).2)), ((ob0 9), .inl (cA 0, (Md_shown (o15.2)).1, .inl (Md_shown (o15.2)).2)), ((ob0 10), .inl (cA 0, (Md_features (o15.2)).1, .inl (Md_features (o15.2)).2)), ((ob0 11), .inl (cA 0, (Md_parts (o15.2)).1, .inl (Md_parts (o15.2)).2)), ((ob0 12), .inl (cA 0, (Md_pushedFeatures (o15.2)).1, .inl (Md_pushedFeatures (o15.2)).2)), ((ob0 13), .inl (cA 0, (Md_pushedParts (o15.2)).1, .inl (Md_pushedParts (o15.2)).2)), ((ob0 14), .inl (cA 0, (Md_touched (o15.2)).1, .inl (Md_touched (o15.2)).2)), ((ob0 15), .inl (cA 0, (Md_reached (o15.2)).1, .inl (Md_reached (o15.2)).2)), ((ob0 16), .inl (cA 0, (Md_blocks (o15.2)).1, .inl (Md_blocks (o15.2)).2)), ((ob0 17), .inl (cA 0, (Md_newBlocks (o15.2)).1, .inl (Md_newBlocks (o15.2)).2)), ((ob0 18), .inl (cA 0, (Md_places (o15.2)).1, .inl (Md_places (o15.2)).2)), ((ad19 0), .inl (cA 0, (Md_written (o15.2)).1, .inl (Md_written (o15.2)).2)), ((ad19 1), .inl (cA 0, (Md_other (o15.2)).1, .inl (Md_other (o15.2)).2))]) (st' := [.int (o15.1)]) rfl rfl ?_
  refine x_if_eq F 41 d_Md_suppose_27 (by decide) (fun c20 => ?_) (fun c20 => ?_)
  · replace hm := xm_t hm c20
    refine x_iconst (v := (1 : Int32)) F d_Md_suppose_41 (by decide) ?_
    refine x_goto F 46 d_Md_suppose_42 (by decide) ?_
    replace hm := xm_p_some hm
    obtain ⟨eo, c_o, d_o⟩ := hm
    subst eo
    refine x_sub [0, 1, 2, 3, 4, 5, 6, 7, 8, 9, 10, 11, 12, 13, 14, 15, 16, 17, 18, 19, 20] (by decide) ?_ (xe_i E ad19 (by omega) (by omega) rfl xz_1 d_Md_suppose_46)
    rfl
  · replace hm := xm_f hm c20
    refine x_aload_n F d_Md_suppose_30 0 rfl rfl ?_
    refine x_aload_n F d_Md_suppose_31 0 rfl rfl ?_
    refine x_get F ck_Md hin_Md 0 7 rfl (by decide) kw_641 rfl rfl d_Md_suppose_32 ?_
    replace hm := xm_b_some hm
    obtain ⟨o21, k22, k23, h24, hm, c_o21, d_o21⟩ := hm
    refine x_callV (n := 1) (C := R_Md) (wr := []) F (c_Md_follow l D cA n ob0 ad19 (o15.2)  o21 k22 h24) kw_774 kw_771 kw_773 kw_24 kw_47 ⟨rfl, by decide, by decide, by decide +kernel⟩ rfl (by decide) (by decide) (ci := 8) rfl rfl 0 rfl [0, 1, 2, 3, 4, 5, 6, 7, 8, 9, 10, 11, 12, 13, 14, 15, 16, 17, 18, 19, 20] [] rfl rfl (by decide) (by decide) (by decide) rfl (Nat.le_of_ble_eq_true rfl) (by omega) (by omega) d_Md_suppose_35 (fun ad25 => ?_)
    refine x_nf (ws' := [((ob0 0), .inr (8, [.ref (ob0 1), .ref (ob0 2), .ref (ob0 3), .ref (ob0 4), .ref (ob0 5), .ref (ob0 6), .ref (ob0 7), .ref (ob0 8), .ref (ob0 9), .int (Md_end (o21.2)), .int (Md_nodes (o21.2)), .ref (ob0 10), .ref (ob0 11), .int (Md_fields (o21.2)), .ref (ob0 12), .ref (ob0 13), .int (Md_pushed (o21.2)), .ref (ob0 14), .int (Md_touches (o21.2)), .ref (ob0 15), .ref (ob0 16), .ref (ob0 17), .ref (ob0 18), .ref (ad25 0), .ref (ad25 1), .int (Md_length (o21.2))])), ((ob0 1), .inl (cA 1, (Md_kinds (o21.2)).1, .inl (Md_kinds (o21.2)).2)), ((ob0 2), .inl (cA 0, (Md_values (o21.2)).1, .inl (Md_values (o21.2)).2)), ((ob0 3), .inl (cA 0, (Md_firsts (o21.2)).1, .inl (Md_firsts (o21.2)).2)), ((ob0 4), .inl (cA 0, (Md_manies (o21.2)).1, .inl (Md_manies (o21.2)).2)), ((ob0 5), .inl (cA 2, (Md_said (o21.2)).1, .inl (Md_said (o21.2)).2)), ((ob0 6), .inl (cA 2, (Md_marked (o21.2)).1, .inl (Md_marked (o21.2)).2)), ((ob0 7), .inl (cA 0, (Md_leaders (o21.2)).1, .inl (Md_leaders (o21.2)).2)), ((ob0 8), .inl (cA 0, (Md_trial (o21.2)).1, .inl (Md_trial (o21.2)).2)), ((ob0 9), .inl (cA 0, (Md_shown (o21.2)).1, .inl (Md_shown (o21.2)).2)), ((ob0 10), .inl (cA 0, (Md_features (o21.2)).1, .inl (Md_features (o21.2)).2)), ((ob0 11), .inl (cA 0, (Md_parts (o21.2)).1, .inl (Md_parts (o21.2)).2)), ((ob0 12), .inl (cA 0, (Md_pushedFeatures (o21.2)).1, .inl (Md_pushedFeatures (o21.2)).2)), ((ob0 13), .inl (cA 0, (Md_pushedParts (o21.2)).1, .inl (Md_pushedParts (o21.2)).2)), ((ob0 14), .inl (cA 0, (Md_touched (o21.2)).1, .inl (Md_touched (o21.2)).2)), ((ob0 15), .inl (cA 0, (Md_reached (o21.2)).1, .inl (Md_reached (o21.2)).2)), ((ob0 16), .inl (cA 0, (Md_blocks (o21.2)).1, .inl (Md_blocks (o21.2)).2)), ((ob0 17), .inl (cA 0, (Md_newBlocks (o21.2)).1, .inl (Md_newBlocks (o21.2)).2)), ((ob0 18), .inl (cA 0, (Md_places (o21.2)).1, .inl (Md_places (o21.2)).2)), ((ad25 0), .inl (cA 0, (Md_written (o21.2)).1, .inl (Md_written (o21.2)).2)), ((ad25 1), .inl (cA 0, (Md_other (o21.2)).1, .inl (Md_other (o21.2)).2))]) (st' := [.int (o21.1)]) rfl rfl ?_
    refine x_if_eq F 45 d_Md_suppose_38 (by decide) (fun c26 => ?_) (fun c26 => ?_)
    · replace hm := xm_t hm c26
      refine x_iconst (v := (0 : Int32)) F d_Md_suppose_45 (by decide) ?_
      replace hm := xm_p_some hm
      obtain ⟨eo, c_o, d_o⟩ := hm
      subst eo
      refine x_sub [0, 1, 2, 3, 4, 5, 6, 7, 8, 9, 10, 11, 12, 13, 14, 15, 16, 17, 18, 19, 20] (by decide) ?_ (xe_i E ad25 (by omega) (by omega) rfl xz_0 d_Md_suppose_46)
      rfl
    · replace hm := xm_f hm c26
      refine x_iconst (v := (1 : Int32)) F d_Md_suppose_41 (by decide) ?_
      refine x_goto F 46 d_Md_suppose_42 (by decide) ?_
      replace hm := xm_p_some hm
      obtain ⟨eo, c_o, d_o⟩ := hm
      subst eo
      refine x_sub [0, 1, 2, 3, 4, 5, 6, 7, 8, 9, 10, 11, 12, 13, 14, 15, 16, 17, 18, 19, 20] (by decide) ?_ (xe_i E ad25 (by omega) (by omega) rfl xz_1 d_Md_suppose_46)
      rfl

noncomputable def L_Md_meant_2 (y1 : Int32) (s0 : S_Md) (n i : Nat) : Int32 → MO ((Int32) ⊕ (Int32)) := Nat.rec (motive := fun _ => Int32 → MO ((Int32) ⊕ (Int32))) (fun _ => none) (fun _ ih x2 => (if (Md_end s0) ≤ x2 then (xm_p (Sum.inl x2)) else (xm_rd (Md_kinds s0) x2 (fun v8 => (if v8 ≤ 0 then (ih (x2 + 1)) else (xm_rd (Md_leaders s0) x2 (fun v10 => (xm_rd (Md_leaders s0) y1 (fun v11 => (if v10 = v11 then (xm_p (Sum.inr x2)) else (ih (x2 + 1)))))))))))) i
theorem L_Md_meant_2_s (y1 : Int32) (s0 : S_Md) (n i : Nat) (x2 : Int32) : L_Md_meant_2 y1 s0 n (i + 1) x2 = (if (Md_end s0) ≤ x2 then (xm_p (Sum.inl x2)) else (xm_rd (Md_kinds s0) x2 (fun v8 => (if v8 ≤ 0 then (L_Md_meant_2 y1 s0 n i (x2 + 1)) else (xm_rd (Md_leaders s0) x2 (fun v10 => (xm_rd (Md_leaders s0) y1 (fun v11 => (if v10 = v11 then (xm_p (Sum.inr x2)) else (L_Md_meant_2 y1 s0 n i (x2 + 1))))))))))) := rfl
noncomputable def m_Md_meant (n : Nat) (s0 : S_Md) (p0 : Int32) : MO (Int32) := (xm_b (L_Md_meant_2 p0 s0 n n (0 : Int32)) (fun o13 => Sum.elim (fun e18 => (xm_p p0)) (fun z => xm_p z) o13))
set_option maxHeartbeats 4000000 in
set_option maxRecDepth 100000 in
theorem wl_Md_meant_2 {X : XT} {l : Launch} {D : va_G} {cA : Nat → ClassId} {mc ms : Nat} (F : XF X l D cA b_Md_meant 3 (some FieldType.int) R_Md 0 0 mc ms) (n : Nat) (ob0 : Nat → Nat) (y1 : Int32) (s0 : S_Md) (ad0 : Nat → Nat) : ∀ (i : Nat) (x2 : Int32)  (nc ns : Nat) (out : (Int32) ⊕ (Int32)) (k : KC), L_Md_meant_2 y1 s0 n i x2 = some (out, k) → nc + k.1 ≤ mc → ns + k.2 ≤ ms → (∀ e : Int32, out = Sum.inl e → ∀ ad : Nat → Nat, XW X 3 ((w_Md cA ob0 ad0  s0)) (nc + k.1) (ns + k.2) 42 [(0, .ref (ob0 0)), (1, .int y1), (2, .int e)] []) → (∀ r : Int32, out = Sum.inr r → ∀ (ad : Nat → Nat) (pc : Nat) (lv : List (Nat × Value)), narrow .int (.int r) = .int r → decode b_Md_meant pc = .ok (.ireturn, 1) → XW X 3 ((w_Md cA ob0 ad0  s0)) (nc + k.1) (ns + k.2) pc lv [.int r]) → XW X 3 ((w_Md cA ob0 ad0  s0)) nc ns 2 [(0, .ref (ob0 0)), (1, .int y1), (2, .int x2)] [] := by
  intro i
  induction i with
  | zero =>
    intro x2  nc ns out k hm
    replace hm : (none : MO ((Int32) ⊕ (Int32))) = some (out, k) := hm
    cases hm
  | succ i ih =>
    intro x2  nc ns out k hm hc hs KX KR
    rw [L_Md_meant_2_s] at hm
    refine x_ws (ws' := [((ob0 0), .inr (8, [.ref (ob0 1), .ref (ob0 2), .ref (ob0 3), .ref (ob0 4), .ref (ob0 5), .ref (ob0 6), .ref (ob0 7), .ref (ob0 8), .ref (ob0 9), .int (Md_end s0), .int (Md_nodes s0), .ref (ob0 10), .ref (ob0 11), .int (Md_fields s0), .ref (ob0 12), .ref (ob0 13), .int (Md_pushed s0), .ref (ob0 14), .int (Md_touches s0), .ref (ob0 15), .ref (ob0 16), .ref (ob0 17), .ref (ob0 18), .ref (ad0 0), .ref (ad0 1), .int (Md_length s0)])), ((ob0 1), .inl (cA 1, (Md_kinds s0).1, .inl (Md_kinds s0).2)), ((ob0 2), .inl (cA 0, (Md_values s0).1, .inl (Md_values s0).2)), ((ob0 3), .inl (cA 0, (Md_firsts s0).1, .inl (Md_firsts s0).2)), ((ob0 4), .inl (cA 0, (Md_manies s0).1, .inl (Md_manies s0).2)), ((ob0 5), .inl (cA 2, (Md_said s0).1, .inl (Md_said s0).2)), ((ob0 6), .inl (cA 2, (Md_marked s0).1, .inl (Md_marked s0).2)), ((ob0 7), .inl (cA 0, (Md_leaders s0).1, .inl (Md_leaders s0).2)), ((ob0 8), .inl (cA 0, (Md_trial s0).1, .inl (Md_trial s0).2)), ((ob0 9), .inl (cA 0, (Md_shown s0).1, .inl (Md_shown s0).2)), ((ob0 10), .inl (cA 0, (Md_features s0).1, .inl (Md_features s0).2)), ((ob0 11), .inl (cA 0, (Md_parts s0).1, .inl (Md_parts s0).2)), ((ob0 12), .inl (cA 0, (Md_pushedFeatures s0).1, .inl (Md_pushedFeatures s0).2)), ((ob0 13), .inl (cA 0, (Md_pushedParts s0).1, .inl (Md_pushedParts s0).2)), ((ob0 14), .inl (cA 0, (Md_touched s0).1, .inl (Md_touched s0).2)), ((ob0 15), .inl (cA 0, (Md_reached s0).1, .inl (Md_reached s0).2)), ((ob0 16), .inl (cA 0, (Md_blocks s0).1, .inl (Md_blocks s0).2)), ((ob0 17), .inl (cA 0, (Md_newBlocks s0).1, .inl (Md_newBlocks s0).2)), ((ob0 18), .inl (cA 0, (Md_places s0).1, .inl (Md_places s0).2)), ((ad0 0), .inl (cA 0, (Md_written s0).1, .inl (Md_written s0).2)), ((ad0 1), .inl (cA 0, (Md_other s0).1, .inl (Md_other s0).2))]) rfl ?_
    refine x_iload_n F d_Md_meant_2 2 rfl rfl ?_
    refine x_aload_n F d_Md_meant_3 0 rfl rfl ?_
    refine x_get F ck_Md hin_Md 0 9 rfl (by decide) kw_643 rfl rfl d_Md_meant_4 ?_
    refine x_icmp_ge F 42 d_Md_meant_7 (by decide) (fun c7 => ?_) (fun c7 => ?_)
    · replace hm := xm_t hm c7
      replace hm := xm_p_some hm
      obtain ⟨eo, c_o, d_o⟩ := hm
      refine x_sub [0, 1, 2, 3, 4, 5, 6, 7, 8, 9, 10, 11, 12, 13, 14, 15, 16, 17, 18, 19, 20] (by decide) ?_ (x_lv [0, 1, 2] ?_ (x_cs (by omega) (by omega) (KX _ eo (fun _ => 0))))
      · rfl
      · rfl
    · replace hm := xm_f hm c7
      refine x_aload_n F d_Md_meant_10 0 rfl rfl ?_
      refine x_get F ck_Md hin_Md 0 0 rfl (by decide) kw_634 rfl rfl d_Md_meant_11 ?_
      refine x_iload_n F d_Md_meant_14 2 rfl rfl ?_
      replace hm := xm_rd_some hm
      obtain ⟨v8, e_v8, b_v8, hm⟩ := hm
      refine x_bald (x := (Md_kinds s0)) F 1 rfl e_v8 b_v8 d_Md_meant_15 ?_
      refine x_if_le F 36 d_Md_meant_16 (by decide) (fun c9 => ?_) (fun c9 => ?_)
      · replace hm := xm_t hm c9
        refine x_iinc (v := (x2 + 1)) (lv' := [(2, .int (x2 + 1)), (0, .ref (ob0 0)), (1, .int y1)]) F d_Md_meant_36 2 rfl rfl (by decide) rfl ?_
        refine x_goto F 2 d_Md_meant_39 (by decide) ?_
        refine x_sub [0, 1, 2, 3, 4, 5, 6, 7, 8, 9, 10, 11, 12, 13, 14, 15, 16, 17, 18, 19, 20] (by decide) ?_ (x_lv [1, 2, 0] ?_ (ih (x2 + 1)  _ _ out k hm (by omega) (by omega) (fun e he ad => x_cs (by omega) (by omega) (KX e he ad)) (fun r hr ad pc lv hn hd => x_cs (by omega) (by omega) (KR r hr ad pc lv hn hd))))
        · rfl
        · rfl
      · replace hm := xm_f hm c9
        refine x_aload_n F d_Md_meant_19 0 rfl rfl ?_
        refine x_get F ck_Md hin_Md 0 6 rfl (by decide) kw_640 rfl rfl d_Md_meant_20 ?_
        refine x_iload_n F d_Md_meant_23 2 rfl rfl ?_
        replace hm := xm_rd_some hm
        obtain ⟨v10, e_v10, b_v10, hm⟩ := hm
        refine x_iald (x := (Md_leaders s0)) F 7 rfl e_v10 b_v10 d_Md_meant_24 ?_
        refine x_aload_n F d_Md_meant_25 0 rfl rfl ?_
        refine x_get F ck_Md hin_Md 0 6 rfl (by decide) kw_640 rfl rfl d_Md_meant_26 ?_
        refine x_iload_n F d_Md_meant_29 1 rfl rfl ?_
        replace hm := xm_rd_some hm
        obtain ⟨v11, e_v11, b_v11, hm⟩ := hm
        refine x_iald (x := (Md_leaders s0)) F 7 rfl e_v11 b_v11 d_Md_meant_30 ?_
        refine x_icmp_ne F 36 d_Md_meant_31 (by decide) (fun c12 => ?_) (fun c12 => ?_)
        · replace hm := xm_f hm c12
          refine x_iinc (v := (x2 + 1)) (lv' := [(2, .int (x2 + 1)), (0, .ref (ob0 0)), (1, .int y1)]) F d_Md_meant_36 2 rfl rfl (by decide) rfl ?_
          refine x_goto F 2 d_Md_meant_39 (by decide) ?_
          refine x_sub [0, 1, 2, 3, 4, 5, 6, 7, 8, 9, 10, 11, 12, 13, 14, 15, 16, 17, 18, 19, 20] (by decide) ?_ (x_lv [1, 2, 0] ?_ (ih (x2 + 1)  _ _ out k hm (by omega) (by omega) (fun e he ad => x_cs (by omega) (by omega) (KX e he ad)) (fun r hr ad pc lv hn hd => x_cs (by omega) (by omega) (KR r hr ad pc lv hn hd))))
          · rfl
          · rfl
        · replace hm := xm_t hm c12
          refine x_iload_n F d_Md_meant_34 2 rfl rfl ?_
          replace hm := xm_p_some hm
          obtain ⟨eo, c_o, d_o⟩ := hm
          refine x_sub [0, 1, 2, 3, 4, 5, 6, 7, 8, 9, 10, 11, 12, 13, 14, 15, 16, 17, 18, 19, 20] (by decide) ?_ (x_cs (by omega) (by omega) (KR _ eo (fun _ => 0) _ _ (xz_i _) d_Md_meant_35))
          rfl
set_option maxHeartbeats 4000000 in
set_option maxRecDepth 100000 in
theorem c_Md_meant (l : Launch) (D : va_G) (cA : Nat → ClassId) (n : Nat) (ob0 ad0 : Nat → Nat) (s0 : S_Md) (p0 : Int32) (out : Int32) (k : KC) (hm : m_Md_meant n s0 p0 = some (out, k)) : XM l D cA y_Md_meant b_Md_meant 3 (some FieldType.int) 0 0 [.ref (ob0 0), .int p0] ((w_Md cA ob0 ad0  s0)) k (fun _ => some (.int out)) (fun ad => (w_Md cA ob0 ad0  s0)) := by
  refine x_met (cc := b_Md_meant) (nL := 3) (ret := (some FieldType.int)) R_Md (by decide) (Nat.le_of_ble_eq_true rfl) rfl (fun X F I E => ?_)
  unfold m_Md_meant at hm
  refine x_nf2 (ws' := [((ob0 0), .inr (8, [.ref (ob0 1), .ref (ob0 2), .ref (ob0 3), .ref (ob0 4), .ref (ob0 5), .ref (ob0 6), .ref (ob0 7), .ref (ob0 8), .ref (ob0 9), .int (Md_end s0), .int (Md_nodes s0), .ref (ob0 10), .ref (ob0 11), .int (Md_fields s0), .ref (ob0 12), .ref (ob0 13), .int (Md_pushed s0), .ref (ob0 14), .int (Md_touches s0), .ref (ob0 15), .ref (ob0 16), .ref (ob0 17), .ref (ob0 18), .ref (ad0 0), .ref (ad0 1), .int (Md_length s0)])), ((ob0 1), .inl (cA 1, (Md_kinds s0).1, .inl (Md_kinds s0).2)), ((ob0 2), .inl (cA 0, (Md_values s0).1, .inl (Md_values s0).2)), ((ob0 3), .inl (cA 0, (Md_firsts s0).1, .inl (Md_firsts s0).2)), ((ob0 4), .inl (cA 0, (Md_manies s0).1, .inl (Md_manies s0).2)), ((ob0 5), .inl (cA 2, (Md_said s0).1, .inl (Md_said s0).2)), ((ob0 6), .inl (cA 2, (Md_marked s0).1, .inl (Md_marked s0).2)), ((ob0 7), .inl (cA 0, (Md_leaders s0).1, .inl (Md_leaders s0).2)), ((ob0 8), .inl (cA 0, (Md_trial s0).1, .inl (Md_trial s0).2)), ((ob0 9), .inl (cA 0, (Md_shown s0).1, .inl (Md_shown s0).2)), ((ob0 10), .inl (cA 0, (Md_features s0).1, .inl (Md_features s0).2)), ((ob0 11), .inl (cA 0, (Md_parts s0).1, .inl (Md_parts s0).2)), ((ob0 12), .inl (cA 0, (Md_pushedFeatures s0).1, .inl (Md_pushedFeatures s0).2)), ((ob0 13), .inl (cA 0, (Md_pushedParts s0).1, .inl (Md_pushedParts s0).2)), ((ob0 14), .inl (cA 0, (Md_touched s0).1, .inl (Md_touched s0).2)), ((ob0 15), .inl (cA 0, (Md_reached s0).1, .inl (Md_reached s0).2)), ((ob0 16), .inl (cA 0, (Md_blocks s0).1, .inl (Md_blocks s0).2)), ((ob0 17), .inl (cA 0, (Md_newBlocks s0).1, .inl (Md_newBlocks s0).2)), ((ob0 18), .inl (cA 0, (Md_places s0).1, .inl (Md_places s0).2)), ((ad0 0), .inl (cA 0, (Md_written s0).1, .inl (Md_written s0).2)), ((ad0 1), .inl (cA 0, (Md_other s0).1, .inl (Md_other s0).2))]) (lv' := [(0, .ref (ob0 0)), (1, .int p0)]) rfl rfl ?_
  refine x_iconst (v := (0 : Int32)) F d_Md_meant_0 (by decide) ?_
  refine x_istore_n (lv' := [(2, .int (0 : Int32)), (0, .ref (ob0 0)), (1, .int p0)]) F d_Md_meant_1 rfl (by decide) rfl ?_
  replace hm := xm_b_some hm
  obtain ⟨o13, k14, k15, h16, hm, c_o13, d_o13⟩ := hm
  refine x_sub [0, 1, 2, 3, 4, 5, 6, 7, 8, 9, 10, 11, 12, 13, 14, 15, 16, 17, 18, 19, 20] (by decide) ?_ (x_lv [1, 2, 0] ?_ (wl_Md_meant_2 F n ob0 p0 s0 ad0 n (0 : Int32)  _ _ o13 k14 h16 (by omega) (by omega) (fun e18 h20 ad17 => ?_) (fun r19 h20 ad17 pc lv hn hd => ?_)))
  · rfl
  · rfl
  · subst h20
    replace hm := xm_inl hm
    refine x_nf2 (ws' := [((ob0 0), .inr (8, [.ref (ob0 1), .ref (ob0 2), .ref (ob0 3), .ref (ob0 4), .ref (ob0 5), .ref (ob0 6), .ref (ob0 7), .ref (ob0 8), .ref (ob0 9), .int (Md_end s0), .int (Md_nodes s0), .ref (ob0 10), .ref (ob0 11), .int (Md_fields s0), .ref (ob0 12), .ref (ob0 13), .int (Md_pushed s0), .ref (ob0 14), .int (Md_touches s0), .ref (ob0 15), .ref (ob0 16), .ref (ob0 17), .ref (ob0 18), .ref (ad0 0), .ref (ad0 1), .int (Md_length s0)])), ((ob0 1), .inl (cA 1, (Md_kinds s0).1, .inl (Md_kinds s0).2)), ((ob0 2), .inl (cA 0, (Md_values s0).1, .inl (Md_values s0).2)), ((ob0 3), .inl (cA 0, (Md_firsts s0).1, .inl (Md_firsts s0).2)), ((ob0 4), .inl (cA 0, (Md_manies s0).1, .inl (Md_manies s0).2)), ((ob0 5), .inl (cA 2, (Md_said s0).1, .inl (Md_said s0).2)), ((ob0 6), .inl (cA 2, (Md_marked s0).1, .inl (Md_marked s0).2)), ((ob0 7), .inl (cA 0, (Md_leaders s0).1, .inl (Md_leaders s0).2)), ((ob0 8), .inl (cA 0, (Md_trial s0).1, .inl (Md_trial s0).2)), ((ob0 9), .inl (cA 0, (Md_shown s0).1, .inl (Md_shown s0).2)), ((ob0 10), .inl (cA 0, (Md_features s0).1, .inl (Md_features s0).2)), ((ob0 11), .inl (cA 0, (Md_parts s0).1, .inl (Md_parts s0).2)), ((ob0 12), .inl (cA 0, (Md_pushedFeatures s0).1, .inl (Md_pushedFeatures s0).2)), ((ob0 13), .inl (cA 0, (Md_pushedParts s0).1, .inl (Md_pushedParts s0).2)), ((ob0 14), .inl (cA 0, (Md_touched s0).1, .inl (Md_touched s0).2)), ((ob0 15), .inl (cA 0, (Md_reached s0).1, .inl (Md_reached s0).2)), ((ob0 16), .inl (cA 0, (Md_blocks s0).1, .inl (Md_blocks s0).2)), ((ob0 17), .inl (cA 0, (Md_newBlocks s0).1, .inl (Md_newBlocks s0).2)), ((ob0 18), .inl (cA 0, (Md_places s0).1, .inl (Md_places s0).2)), ((ad0 0), .inl (cA 0, (Md_written s0).1, .inl (Md_written s0).2)), ((ad0 1), .inl (cA 0, (Md_other s0).1, .inl (Md_other s0).2))]) (lv' := [(0, .ref (ob0 0)), (1, .int p0), (2, .int e18)]) rfl rfl ?_
    refine x_iload_n F d_Md_meant_42 1 rfl rfl ?_
    replace hm := xm_p_some hm
    obtain ⟨eo, c_o, d_o⟩ := hm
    subst eo
    refine x_sub [0, 1, 2, 3, 4, 5, 6, 7, 8, 9, 10, 11, 12, 13, 14, 15, 16, 17, 18, 19, 20] (by decide) ?_ (xe_i E (fun _ => 0) (by omega) (by omega) rfl (xz_i _) d_Md_meant_43)
    rfl
  · subst h20
    replace hm := xm_inr hm
    replace hm := xm_p_some hm
    obtain ⟨eo, c_o, d_o⟩ := hm
    subst eo
    exact xe_i E (fun _ => 0) (by omega) (by omega) rfl hn hd
