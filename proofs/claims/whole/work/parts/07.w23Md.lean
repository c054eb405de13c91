noncomputable def L_Md_pack_17 (y1 : Int32) (y2 : Int32) (s0 : S_Md) (n i : Nat) : Int32 → Int32 → MO (Int32 × Int32) := Nat.rec (motive := fun _ => Int32 → Int32 → MO (Int32 × Int32)) (fun _ _ => none) (fun _ ih x3 x4 => (if (Md_end s0) ≤ x4 then (xm_p ((x3, x4))) else (xm_rd (Md_kinds s0) x4 (fun v28 => (xm_b (if v28 < (3 : Int32) then (xm_p (0 : Int32)) else (xm_rd (Md_manies s0) x4 (fun v43 => (if v43 ≤ 0 then (xm_p (0 : Int32)) else (xm_rd (Md_firsts s0) x4 (fun v45 => (if v45 < y2 then (xm_p (0 : Int32)) else (xm_p (1 : Int32))))))))) (fun j29 => (xm_b (if j29 = 0 then (xm_p x3) else (if x3 = (-1 : Int32) then (xm_p x4) else (xm_rd (Md_firsts s0) x4 (fun v39 => (xm_rd (Md_firsts s0) x3 (fun v40 => (if v40 ≤ v39 then (xm_p x3) else (xm_p x4)))))))) (fun j33 => (ih j33 (x4 + 1)))))))))) i
theorem L_Md_pack_17_s (y1 : Int32) (y2 : Int32) (s0 : S_Md) (n i : Nat) (x3 : Int32) (x4 : Int32) : L_Md_pack_17 y1 y2 s0 n (i + 1) x3 x4 = (if (Md_end s0) ≤ x4 then (xm_p ((x3, x4))) else (xm_rd (Md_kinds s0) x4 (fun v28 => (xm_b (if v28 < (3 : Int32) then (xm_p (0 : Int32)) else (xm_rd (Md_manies s0) x4 (fun v43 => (if v43 ≤ 0 then (xm_p (0 : Int32)) else (xm_rd (Md_firsts s0) x4 (fun v45 => (if v45 < y2 then (xm_p (0 : Int32)) else (xm_p (1 : Int32))))))))) (fun j29 => (xm_b (if j29 = 0 then (xm_p x3) else (if x3 = (-1 : Int32) then (xm_p x4) else (xm_rd (Md_firsts s0) x4 (fun v39 => (xm_rd (Md_firsts s0) x3 (fun v40 => (if v40 ≤ v39 then (xm_p x3) else (xm_p x4)))))))) (fun j33 => (L_Md_pack_17 y1 y2 s0 n i j33 (x4 + 1))))))))) := rfl
noncomputable def L_Md_pack_128 (y1 : Int32) (y2 : Int32) (y3 : Int32) (y4 : Int32) (n i : Nat) : Int32 → S_Md → MO (Int32 × S_Md) := Nat.rec (motive := fun _ => Int32 → S_Md → MO (Int32 × S_Md)) (fun _ _ => none) (fun _ ih x5 s0 => (xm_rd (Md_manies s0) y3 (fun v54 => (if v54 ≤ x5 then (xm_p ((x5, s0))) else (xm_rd (Md_features s0) (y4 + x5) (fun v56 => (xm_wr (Md_features s0) (y1 + x5) v56 (fun a57 => (xm_rd (Md_parts s0) (y4 + x5) (fun v58 => (xm_rd (Md_leaders s0) v58 (fun v59 => (xm_wr (Md_parts s0) (y1 + x5) v59 (fun a60 => (ih (x5 + 1) ((Md_kinds s0), (Md_values s0), (Md_firsts s0), (Md_manies s0), (Md_said s0), (Md_marked s0), (Md_leaders s0), (Md_trial s0), (Md_shown s0), (Md_end s0), (Md_nodes s0), a57, a60, (Md_fields s0), (Md_pushedFeatures s0), (Md_pushedParts s0), (Md_pushed s0), (Md_touched s0), (Md_touches s0), (Md_reached s0), (Md_blocks s0), (Md_newBlocks s0), (Md_places s0), (Md_written s0), (Md_other s0), (Md_length s0))))))))))))))))) i
theorem L_Md_pack_128_s (y1 : Int32) (y2 : Int32) (y3 : Int32) (y4 : Int32) (n i : Nat) (x5 : Int32) (s0 : S_Md) : L_Md_pack_128 y1 y2 y3 y4 n (i + 1) x5 s0 = (xm_rd (Md_manies s0) y3 (fun v54 => (if v54 ≤ x5 then (xm_p ((x5, s0))) else (xm_rd (Md_features s0) (y4 + x5) (fun v56 => (xm_wr (Md_features s0) (y1 + x5) v56 (fun a57 => (xm_rd (Md_parts s0) (y4 + x5) (fun v58 => (xm_rd (Md_leaders s0) v58 (fun v59 => (xm_wr (Md_parts s0) (y1 + x5) v59 (fun a60 => (L_Md_pack_128 y1 y2 y3 y4 n i (x5 + 1) ((Md_kinds s0), (Md_values s0), (Md_firsts s0), (Md_manies s0), (Md_said s0), (Md_marked s0), (Md_leaders s0), (Md_trial s0), (Md_shown s0), (Md_end s0), (Md_nodes s0), a57, a60, (Md_fields s0), (Md_pushedFeatures s0), (Md_pushedParts s0), (Md_pushed s0), (Md_touched s0), (Md_touches s0), (Md_reached s0), (Md_blocks s0), (Md_newBlocks s0), (Md_places s0), (Md_written s0), (Md_other s0), (Md_length s0)))))))))))))))) := rfl
noncomputable def L_Md_pack_4  (n i : Nat) : Int32 → Int32 → S_Md → MO (Int32 × Int32 × S_Md) := Nat.rec (motive := fun _ => Int32 → Int32 → S_Md → MO (Int32 × Int32 × S_Md)) (fun _ _ _ => none) (fun _ ih x1 x2 s0 => (if (Md_fields s0) ≤ x2 then (xm_p ((x1, x2, s0))) else (xm_b (L_Md_pack_17 x1 x2 s0 n n (-1 : Int32) (0 : Int32)) (fun o47 => (if (o47.1) = (-1 : Int32) then (ih x1 (Md_fields s0) s0) else (xm_rd (Md_firsts s0) (o47.1) (fun v53 => (xm_b (L_Md_pack_128 x1 x2 (o47.1) v53 n n (0 : Int32) s0) (fun o61 => (xm_wr (Md_firsts (o61.2)) (o47.1) x1 (fun a66 => (xm_rd (Md_manies (o61.2)) (o47.1) (fun v67 => (xm_rd (Md_manies (o61.2)) (o47.1) (fun v68 => (ih (x1 + v68) (v53 + v67) ((Md_kinds (o61.2)), (Md_values (o61.2)), a66, (Md_manies (o61.2)), (Md_said (o61.2)), (Md_marked (o61.2)), (Md_leaders (o61.2)), (Md_trial (o61.2)), (Md_shown (o61.2)), (Md_end (o61.2)), (Md_nodes (o61.2)), (Md_features (o61.2)), (Md_parts (o61.2)), (Md_fields (o61.2)), (Md_pushedFeatures (o61.2)), (Md_pushedParts (o61.2)), (Md_pushed (o61.2)), (Md_touched (o61.2)), (Md_touches (o61.2)), (Md_reached (o61.2)), (Md_blocks (o61.2)), (Md_newBlocks (o61.2)), (Md_places (o61.2)), (Md_written (o61.2)), (Md_other (o61.2)), (Md_length (o61.2))))))))))))))))))) i
theorem L_Md_pack_4_s  (n i : Nat) (x1 : Int32) (x2 : Int32) (s0 : S_Md) : L_Md_pack_4  n (i + 1) x1 x2 s0 = (if (Md_fields s0) ≤ x2 then (xm_p ((x1, x2, s0))) else (xm_b (L_Md_pack_17 x1 x2 s0 n n (-1 : Int32) (0 : Int32)) (fun o47 => (if (o47.1) = (-1 : Int32) then (L_Md_pack_4  n i x1 (Md_fields s0) s0) else (xm_rd (Md_firsts s0) (o47.1) (fun v53 => (xm_b (L_Md_pack_128 x1 x2 (o47.1) v53 n n (0 : Int32) s0) (fun o61 => (xm_wr (Md_firsts (o61.2)) (o47.1) x1 (fun a66 => (xm_rd (Md_manies (o61.2)) (o47.1) (fun v67 => (xm_rd (Md_manies (o61.2)) (o47.1) (fun v68 => (L_Md_pack_4  n i (x1 + v68) (v53 + v67) ((Md_kinds (o61.2)), (Md_values (o61.2)), a66, (Md_manies (o61.2)), (Md_said (o61.2)), (Md_marked (o61.2)), (Md_leaders (o61.2)), (Md_trial (o61.2)), (Md_shown (o61.2)), (Md_end (o61.2)), (Md_nodes (o61.2)), (Md_features (o61.2)), (Md_parts (o61.2)), (Md_fields (o61.2)), (Md_pushedFeatures (o61.2)), (Md_pushedParts (o61.2)), (Md_pushed (o61.2)), (Md_touched (o61.2)), (Md_touches (o61.2)), (Md_reached (o61.2)), (Md_blocks (o61.2)), (Md_newBlocks (o61.2)), (Md_places (o61.2)), (Md_written (o61.2)), (Md_other (o61.2)), (Md_length (o61.2)))))))))))))))))) := rfl
noncomputable def m_Md_pack (n : Nat) (s0 : S_Md)  : MO (S_Md) := (xm_b (L_Md_pack_4  n n (0 : Int32) (0 : Int32) s0) (fun o69 => (xm_p ((Md_kinds (o69.2.2)), (Md_values (o69.2.2)), (Md_firsts (o69.2.2)), (Md_manies (o69.2.2)), (Md_said (o69.2.2)), (Md_marked (o69.2.2)), (Md_leaders (o69.2.2)), (Md_trial (o69.2.2)), (Md_shown (o69.2.2)), (Md_end (o69.2.2)), (Md_nodes (o69.2.2)), (Md_features (o69.2.2)), (Md_parts (o69.2.2)), (o69.1), (Md_pushedFeatures (o69.2.2)), (Md_pushedParts (o69.2.2)), (Md_pushed (o69.2.2)), (Md_touched (o69.2.2)), (Md_touches (o69.2.2)), (Md_reached (o69.2.2)), (Md_blocks (o69.2.2)), (Md_newBlocks (o69.2.2)), (Md_places (o69.2.2)), (Md_written (o69.2.2)), (Md_other (o69.2.2)), (Md_length (o69.2.2))))))
set_option maxHeartbeats 4000000 in
set_option maxRecDepth 100000 in
theorem wl_Md_pack_17 {X : XT} {l : Launch} {D : va_G} {cA : Nat → ClassId} {mc ms : Nat} (F : XF X l D cA b_Md_pack 6 none R_Md 0 0 mc ms) (n : Nat) (ob0 : Nat → Nat) (y1 : Int32) (y2 : Int32) (s0 : S_Md)  (ad0 : Nat → Nat) : ∀ (i : Nat) (x3 : Int32) (x4 : Int32)  (nc ns : Nat) (out : Int32 × Int32) (k : KC), L_Md_pack_17 y1 y2 s0 n i x3 x4 = some (out, k) → nc + k.1 ≤ mc → ns + k.2 ≤ ms → (∀ ad : Nat → Nat, XW X 6 ((w_Md cA ob0 ad0  s0)) (nc + k.1) (ns + k.2) 104 [(0, .ref (ob0 0)), (1, .int y1), (2, .int y2), (3, .int (out.1)), (4, .int (out.2))] []) → XW X 6 ((w_Md cA ob0 ad0  s0)) nc ns 17 [(0, .ref (ob0 0)), (1, .int y1), (2, .int y2), (3, .int x3), (4, .int x4)] [] := by
  intro i
  induction i with
  | zero =>
    intro x3 x4  nc ns out k hm
    replace hm : (none : MO (Int32 × Int32)) = some (out, k) := hm
    cases hm
  | succ i ih =>
    intro x3 x4  nc ns out k hm hc hs KX
    rw [L_Md_pack_17_s] at hm
    refine x_ws (ws' := [((ob0 0), .inr (8, [.ref (ob0 1), .ref (ob0 2), .ref (ob0 3), .ref (ob0 4), .ref (ob0 5), .ref (ob0 6), .ref (ob0 7), .ref (ob0 8), .ref (ob0 9), .int (Md_end s0), .int (Md_nodes s0), .ref (ob0 10), .ref (ob0 11), .int (Md_fields s0), .ref (ob0 12), .ref (ob0 13), .int (Md_pushed s0), .ref (ob0 14), .int (Md_touches s0), .ref (ob0 15), .ref (ob0 16), .ref (ob0 17), .ref (ob0 18), .ref (ad0 0), .ref (ad0 1), .int (Md_length s0)])), ((ob0 1), .inl (cA 1, (Md_kinds s0).1, .inl (Md_kinds s0).2)), ((ob0 2), .inl (cA 0, (Md_values s0).1, .inl (Md_values s0).2)), ((ob0 3), .inl (cA 0, (Md_firsts s0).1, .inl (Md_firsts s0).2)), ((ob0 4), .inl (cA 0, (Md_manies s0).1, .inl (Md_manies s0).2)), ((ob0 5), .inl (cA 2, (Md_said s0).1, .inl (Md_said s0).2)), ((ob0 6), .inl (cA 2, (Md_marked s0).1, .inl (Md_marked s0).2)), ((ob0 7), .inl (cA 0, (Md_leaders s0).1, .inl (Md_leaders s0).2)), ((ob0 8), .inl (cA 0, (Md_trial s0).1, .inl (Md_trial s0).2)), ((ob0 9), .inl (cA 0, (Md_shown s0).1, .inl (Md_shown s0).2)), ((ob0 10), .inl (cA 0, (Md_features s0).1, .inl (Md_features s0).2)), ((ob0 11), .inl (cA 0, (Md_parts s0).1, .inl (Md_parts s0).2)), ((ob0 12), .inl (cA 0, (Md_pushedFeatures s0).1, .inl (Md_pushedFeatures s0).2)), ((ob0 13), .inl (cA 0, (Md_pushedParts s0).1, .inl (Md_pushedParts s0).2)), ((ob0 14), .inl (cA 0, (Md_touched s0).1, .inl (Md_touched s0).2)), ((ob0 15), .inl (cA 0, (Md_reached s0).1, .inl (Md_reached s0).2)), ((ob0 16), .inl (cA 0, (Md_blocks s0).1, .inl (Md_blocks s0).2)), ((ob0 17), .inl (cA 0, (Md_newBlocks s0).1, .inl (Md_newBlocks s0).2)), ((ob0 18), .inl (cA 0, (Md_places s0).1, .inl (Md_places s0).2)), ((ad0 0), .inl (cA 0, (Md_written s0).1, .inl (Md_written s0).2)), ((ad0 1), .inl (cA 0, (Md_other s0).1, .inl (Md_other s0).2))]) rfl ?_
    refine x_iload F d_Md_pack_17 4 rfl ?_
    refine x_aload_n F d_Md_pack_19 0 rfl rfl ?_
    refine x_get F ck_Md hin_Md 0 9 rfl (by decide) kw_643 rfl rfl d_Md_pack_20 ?_
    refine x_icmp_ge F 104 d_Md_pack_23 (by decide) (fun c27 => ?_) (fun c27 => ?_)
    · replace hm := xm_t hm c27
      replace hm := xm_p_some hm
      obtain ⟨eo, c_o, d_o⟩ := hm
      subst eo
      refine x_sub [0, 1, 2, 3, 4, 5, 6, 7, 8, 9, 10, 11, 12, 13, 14, 15, 16, 17, 18, 19, 20] (by decide) ?_ (x_lv [0, 1, 2, 3, 4] ?_ (x_cs (by omega) (by omega) (KX (fun _ => 0))))
      · rfl
      · rfl
    · replace hm := xm_f hm c27
      refine x_aload_n F d_Md_pack_26 0 rfl rfl ?_
      refine x_get F ck_Md hin_Md 0 0 rfl (by decide) kw_634 rfl rfl d_Md_pack_27 ?_
      refine x_iload F d_Md_pack_30 4 rfl ?_
      replace hm := xm_rd_some hm
      obtain ⟨v28, e_v28, b_v28, hm⟩ := hm
      refine x_bald (x := (Md_kinds s0)) F 1 rfl e_v28 b_v28 d_Md_pack_32 ?_
      refine x_iconst (v := (3 : Int32)) F d_Md_pack_33 (by decide) ?_
      replace hm := xm_b_some hm
      obtain ⟨j29, k30, k31, h32, hm, c_j29, d_j29⟩ := hm
      refine x_mrg (k1 := k30) (M := 63) (v := j29) (st := []) ?_ (fun J => ?_)
      · skip
        refine x_istore (lv' := [(5, .int j29), (0, .ref (ob0 0)), (1, .int y1), (2, .int y2), (3, .int x3), (4, .int x4)]) F d_Md_pack_63 (by decide) rfl ?_
        refine x_iload F d_Md_pack_65 0 rfl ?_
        replace hm := xm_b_some hm
        obtain ⟨j33, k34, k35, h36, hm, c_j33, d_j33⟩ := hm
        refine x_mrg (k1 := k34) (M := 97) (v := j33) (st := []) ?_ (fun J => ?_)
        · skip
          refine x_istore_n (lv' := [(3, .int j33), (5, .int j29), (0, .ref (ob0 0)), (1, .int y1), (2, .int y2), (4, .int x4)]) F d_Md_pack_97 rfl (by decide) rfl ?_
          refine x_iinc (v := (x4 + 1)) (lv' := [(4, .int (x4 + 1)), (3, .int j33), (5, .int j29), (0, .ref (ob0 0)), (1, .int y1), (2, .int y2)]) F d_Md_pack_98 5 rfl rfl (by decide) rfl ?_
          refine x_goto F 17 d_Md_pack_101 (by decide) ?_
          refine x_sub [0, 1, 2, 3, 4, 5, 6, 7, 8, 9, 10, 11, 12, 13, 14, 15, 16, 17, 18, 19, 20] (by decide) ?_ (x_lv [3, 4, 5, 1, 0] ?_ (ih j33 (x4 + 1)  _ _ out k35 hm (by omega) (by omega) (fun ad => x_cs (by omega) (by omega) (KX ad))))
          · rfl
          · rfl
        · replace hm := h36
          refine x_if_eq F 96 d_Md_pack_67 (by decide) (fun c37 => ?_) (fun c37 => ?_)
          · replace hm := xm_t hm c37
            refine x_iload_n F d_Md_pack_96 4 rfl rfl ?_
            replace hm := xm_p_some hm
            obtain ⟨eo, c_o, d_o⟩ := hm
            subst eo
            exact x_cs (by omega) (by omega) J
          · replace hm := xm_f hm c37
            refine x_iload_n F d_Md_pack_70 4 rfl rfl ?_
            refine x_iconst (v := (-1 : Int32)) F d_Md_pack_71 (by decide) ?_
            refine x_icmp_eq F 91 d_Md_pack_72 (by decide) (fun c38 => ?_) (fun c38 => ?_)
            · replace hm := xm_t hm c38
              refine x_iload F d_Md_pack_91 5 rfl ?_
              refine x_goto F 97 d_Md_pack_93 (by decide) ?_
              replace hm := xm_p_some hm
              obtain ⟨eo, c_o, d_o⟩ := hm
              subst eo
              exact x_cs (by omega) (by omega) J
            · replace hm := xm_f hm c38
              refine x_aload_n F d_Md_pack_75 1 rfl rfl ?_
              refine x_get F ck_Md hin_Md 0 2 rfl (by decide) kw_636 rfl rfl d_Md_pack_76 ?_
              refine x_iload F d_Md_pack_79 5 rfl ?_
              replace hm := xm_rd_some hm
              obtain ⟨v39, e_v39, b_v39, hm⟩ := hm
              refine x_iald (x := (Md_firsts s0)) F 3 rfl e_v39 b_v39 d_Md_pack_81 ?_
              refine x_aload_n F d_Md_pack_82 1 rfl rfl ?_
              refine x_get F ck_Md hin_Md 0 2 rfl (by decide) kw_636 rfl rfl d_Md_pack_83 ?_
              refine x_iload_n F d_Md_pack_86 4 rfl rfl ?_
              replace hm := xm_rd_some hm
              obtain ⟨v40, e_v40, b_v40, hm⟩ := hm
              refine x_iald (x := (Md_firsts s0)) F 3 rfl e_v40 b_v40 d_Md_pack_87 ?_
              refine x_icmp_ge F 96 d_Md_pack_88 (by decide) (fun c41 => ?_) (fun c41 => ?_)
              · replace hm := xm_t hm c41
                refine x_iload_n F d_Md_pack_96 4 rfl rfl ?_
                replace hm := xm_p_some hm
                obtain ⟨eo, c_o, d_o⟩ := hm
                subst eo
                exact x_cs (by omega) (by omega) J
              · replace hm := xm_f hm c41
                refine x_iload F d_Md_pack_91 5 rfl ?_
                refine x_goto F 97 d_Md_pack_93 (by decide) ?_
                replace hm := xm_p_some hm
                obtain ⟨eo, c_o, d_o⟩ := hm
                subst eo
                exact x_cs (by omega) (by omega) J
      · replace hm := h32
        refine x_icmp_lt F 62 d_Md_pack_34 (by decide) (fun c42 => ?_) (fun c42 => ?_)
        · replace hm := xm_t hm c42
          refine x_iconst (v := (0 : Int32)) F d_Md_pack_62 (by decide) ?_
          replace hm := xm_p_some hm
          obtain ⟨eo, c_o, d_o⟩ := hm
          subst eo
          exact x_cs (by omega) (by omega) J
        · replace hm := xm_f hm c42
          refine x_aload_n F d_Md_pack_37 0 rfl rfl ?_
          refine x_get F ck_Md hin_Md 0 3 rfl (by decide) kw_637 rfl rfl d_Md_pack_38 ?_
          refine x_iload F d_Md_pack_41 4 rfl ?_
          replace hm := xm_rd_some hm
          obtain ⟨v43, e_v43, b_v43, hm⟩ := hm
          refine x_iald (x := (Md_manies s0)) F 4 rfl e_v43 b_v43 d_Md_pack_43 ?_
          refine x_if_le F 62 d_Md_pack_44 (by decide) (fun c44 => ?_) (fun c44 => ?_)
          · replace hm := xm_t hm c44
            refine x_iconst (v := (0 : Int32)) F d_Md_pack_62 (by decide) ?_
            replace hm := xm_p_some hm
            obtain ⟨eo, c_o, d_o⟩ := hm
            subst eo
            exact x_cs (by omega) (by omega) J
          · replace hm := xm_f hm c44
            refine x_aload_n F d_Md_pack_47 0 rfl rfl ?_
            refine x_get F ck_Md hin_Md 0 2 rfl (by decide) kw_636 rfl rfl d_Md_pack_48 ?_
            refine x_iload F d_Md_pack_51 4 rfl ?_
            replace hm := xm_rd_some hm
            obtain ⟨v45, e_v45, b_v45, hm⟩ := hm
            refine x_iald (x := (Md_firsts s0)) F 3 rfl e_v45 b_v45 d_Md_pack_53 ?_
            refine x_iload_n F d_Md_pack_54 2 rfl rfl ?_
            refine x_icmp_lt F 62 d_Md_pack_55 (by decide) (fun c46 => ?_) (fun c46 => ?_)
            · replace hm := xm_t hm c46
              refine x_iconst (v := (0 : Int32)) F d_Md_pack_62 (by decide) ?_
              replace hm := xm_p_some hm
              obtain ⟨eo, c_o, d_o⟩ := hm
              subst eo
              exact x_cs (by omega) (by omega) J
            · replace hm := xm_f hm c46
              refine x_iconst (v := (1 : Int32)) F d_Md_pack_58 (by decide) ?_
              refine x_goto F 63 d_Md_pack_59 (by decide) ?_
              replace hm := xm_p_some hm
              obtain ⟨eo, c_o, d_o⟩ := hm
              subst eo
              exact x_cs (by omega) (by omega) J
set_option maxHeartbeats 4000000 in
set_option maxRecDepth 100000 in
theorem wl_Md_pack_128 {X : XT} {l : Launch} {D : va_G} {cA : Nat → ClassId} {mc ms : Nat} (F : XF X l D cA b_Md_pack 6 none R_Md 0 0 mc ms) (n : Nat) (ob0 : Nat → Nat) (y1 : Int32) (y2 : Int32) (y3 : Int32) (y4 : Int32)   : ∀ (i : Nat) (x5 : Int32) (s0 : S_Md) (ad0 : Nat → Nat) (nc ns : Nat) (out : Int32 × S_Md) (k : KC), L_Md_pack_128 y1 y2 y3 y4 n i x5 s0 = some (out, k) → nc + k.1 ≤ mc → ns + k.2 ≤ ms → (∀ ad : Nat → Nat, XW X 6 ((w_Md cA ob0 ad  (out.2))) (nc + k.1) (ns + k.2) 188 [(0, .ref (ob0 0)), (1, .int y1), (2, .int y2), (3, .int y3), (4, .int y4), (5, .int (out.1))] []) → XW X 6 ((w_Md cA ob0 ad0  s0)) nc ns 128 [(0, .ref (ob0 0)), (1, .int y1), (2, .int y2), (3, .int y3), (4, .int y4), (5, .int x5)] [] := by
  intro i
  induction i with
  | zero =>
    intro x5 s0 ad0 nc ns out k hm
    replace hm : (none : MO (Int32 × S_Md)) = some (out, k) := hm
    cases hm
  | succ i ih =>
    intro x5 s0 ad0 nc ns out k hm hc hs KX
    rw [L_Md_pack_128_s] at hm
    refine x_ws (ws' := [((ob0 0), .inr (8, [.ref (ob0 1), .ref (ob0 2), .ref (ob0 3), .ref (ob0 4), .ref (ob0 5), .ref (ob0 6), .ref (ob0 7), .ref (ob0 8), .ref (ob0 9), .int (Md_end s0), .int (Md_nodes s0), .ref (ob0 10), .ref (ob0 11), .int (Md_fields s0), .ref (ob0 12), .ref (ob0 13), .int (Md_pushed s0), .ref (ob0 14), .int (Md_touches s0), .ref (ob0 15), .ref (ob0 16), .ref (ob0 17), .ref (ob0 18), .ref (ad0 0), .ref (ad0 1), .int (Md_length s0)])), ((ob0 1), .inl (cA 1, (Md_kinds s0).1, .inl (Md_kinds s0).2)), ((ob0 2), .inl (cA 0, (Md_values s0).1, .inl (Md_values s0).2)), ((ob0 3), .inl (cA 0, (Md_firsts s0).1, .inl (Md_firsts s0).2)), ((ob0 4), .inl (cA 0, (Md_manies s0).1, .inl (Md_manies s0).2)), ((ob0 5), .inl (cA 2, (Md_said s0).1, .inl (Md_said s0).2)), ((ob0 6), .inl (cA 2, (Md_marked s0).1, .inl (Md_marked s0).2)), ((ob0 7), .inl (cA 0, (Md_leaders s0).1, .inl (Md_leaders s0).2)), ((ob0 8), .inl (cA 0, (Md_trial s0).1, .inl (Md_trial s0).2)), ((ob0 9), .inl (cA 0, (Md_shown s0).1, .inl (Md_shown s0).2)), ((ob0 10), .inl (cA 0, (Md_features s0).1, .inl (Md_features s0).2)), ((ob0 11), .inl (cA 0, (Md_parts s0).1, .inl (Md_parts s0).2)), ((ob0 12), .inl (cA 0, (Md_pushedFeatures s0).1, .inl (Md_pushedFeatures s0).2)), ((ob0 13), .inl (cA 0, (Md_pushedParts s0).1, .inl (Md_pushedParts s0).2)), ((ob0 14), .inl (cA 0, (Md_touched s0).1, .inl (Md_touched s0).2)), ((ob0 15), .inl (cA 0, (Md_reached s0).1, .inl (Md_reached s0).2)), ((ob0 16), .inl (cA 0, (Md_blocks s0).1, .inl (Md_blocks s0).2)), ((ob0 17), .inl (cA 0, (Md_newBlocks s0).1, .inl (Md_newBlocks s0).2)), ((ob0 18), .inl (cA 0, (Md_places s0).1, .inl (Md_places s0).2)), ((ad0 0), .inl (cA 0, (Md_written s0).1, .inl (Md_written s0).2)), ((ad0 1), .inl (cA 0, (Md_other s0).1, .inl (Md_other s0).2))]) rfl ?_
    refine x_iload F d_Md_pack_128 5 rfl ?_
    refine x_aload_n F d_Md_pack_130 0 rfl rfl ?_
    refine x_get F ck_Md hin_Md 0 3 rfl (by decide) kw_637 rfl rfl d_Md_pack_131 ?_
    refine x_iload_n F d_Md_pack_134 3 rfl rfl ?_
    replace hm := xm_rd_some hm
    obtain ⟨v54, e_v54, b_v54, hm⟩ := hm
    refine x_iald (x := (Md_manies s0)) F 4 rfl e_v54 b_v54 d_Md_pack_135 ?_
    refine x_icmp_ge F 188 d_Md_pack_136 (by decide) (fun c55 => ?_) (fun c55 => ?_)
    · replace hm := xm_t hm c55
      replace hm := xm_p_some hm
      obtain ⟨eo, c_o, d_o⟩ := hm
      subst eo
      refine x_sub [0, 1, 2, 3, 4, 5, 6, 7, 8, 9, 10, 11, 12, 13, 14, 15, 16, 17, 18, 19, 20] (by decide) ?_ (x_lv [0, 1, 2, 3, 4, 5] ?_ (x_cs (by omega) (by omega) (KX ad0)))
      · rfl
      · rfl
    · replace hm := xm_f hm c55
      refine x_aload_n F d_Md_pack_139 0 rfl rfl ?_
      refine x_get F ck_Md hin_Md 0 11 rfl (by decide) kw_645 rfl rfl d_Md_pack_140 ?_
      refine x_iload_n F d_Md_pack_143 1 rfl rfl ?_
      refine x_iload F d_Md_pack_144 5 rfl ?_
      refine x_iadd F d_Md_pack_146 ?_
      refine x_aload_n F d_Md_pack_147 0 rfl rfl ?_
      refine x_get F ck_Md hin_Md 0 11 rfl (by decide) kw_645 rfl rfl d_Md_pack_148 ?_
      refine x_iload F d_Md_pack_151 4 rfl ?_
      refine x_iload F d_Md_pack_153 5 rfl ?_
      refine x_iadd F d_Md_pack_155 ?_
      replace hm := xm_rd_some hm
      obtain ⟨v56, e_v56, b_v56, hm⟩ := hm
      refine x_iald (x := (Md_features s0)) F 10 rfl e_v56 b_v56 d_Md_pack_156 ?_
      replace hm := xm_wr_some hm
      obtain ⟨a57, e_a57, b_a57, hm⟩ := hm
      refine x_iast (x := (Md_features s0)) (x' := a57) (ws' := [((ob0 0), .inr (8, [.ref (ob0 1), .ref (ob0 2), .ref (ob0 3), .ref (ob0 4), .ref (ob0 5), .ref (ob0 6), .ref (ob0 7), .ref (ob0 8), .ref (ob0 9), .int (Md_end s0), .int (Md_nodes s0), .ref (ob0 10), .ref (ob0 11), .int (Md_fields s0), .ref (ob0 12), .ref (ob0 13), .int (Md_pushed s0), .ref (ob0 14), .int (Md_touches s0), .ref (ob0 15), .ref (ob0 16), .ref (ob0 17), .ref (ob0 18), .ref (ad0 0), .ref (ad0 1), .int (Md_length s0)])), ((ob0 1), .inl (cA 1, (Md_kinds s0).1, .inl (Md_kinds s0).2)), ((ob0 2), .inl (cA 0, (Md_values s0).1, .inl (Md_values s0).2)), ((ob0 3), .inl (cA 0, (Md_firsts s0).1, .inl (Md_firsts s0).2)), ((ob0 4), .inl (cA 0, (Md_manies s0).1, .inl (Md_manies s0).2)), ((ob0 5), .inl (cA 2, (Md_said s0).1, .inl (Md_said s0).2)), ((ob0 6), .inl (cA 2, (Md_marked s0).1, .inl (Md_marked s0).2)), ((ob0 7), .inl (cA 0, (Md_leaders s0).1, .inl (Md_leaders s0).2)), ((ob0 8), .inl (cA 0, (Md_trial s0).1, .inl (Md_trial s0).2)), ((ob0 9), .inl (cA 0, (Md_shown s0).1, .inl (Md_shown s0).2)), ((ob0 10), .inl (cA 0, a57.1, .inl a57.2)), ((ob0 11), .inl (cA 0, (Md_parts s0).1, .inl (Md_parts s0).2)), ((ob0 12), .inl (cA 0, (Md_pushedFeatures s0).1, .inl (Md_pushedFeatures s0).2)), ((ob0 13), .inl (cA 0, (Md_pushedParts s0).1, .inl (Md_pushedParts s0).2)), ((ob0 14), .inl (cA 0, (Md_touched s0).1, .inl (Md_touched s0).2)), ((ob0 15), .inl (cA 0, (Md_reached s0).1, .inl (Md_reached s0).2)), ((ob0 16), .inl (cA 0, (Md_blocks s0).1, .inl (Md_blocks s0).2)), ((ob0 17), .inl (cA 0, (Md_newBlocks s0).1, .inl (Md_newBlocks s0).2)), ((ob0 18), .inl (cA 0, (Md_places s0).1, .inl (Md_places s0).2)), ((ad0 0), .inl (cA 0, (Md_written s0).1, .inl (Md_written s0).2)), ((ad0 1), .inl (cA 0, (Md_other s0).1, .inl (Md_other s0).2))]) F 10 rfl e_a57 b_a57 rfl d_Md_pack_157 ?_
      refine x_aload_n F d_Md_pack_158 0 rfl rfl ?_
      refine x_get F ck_Md hin_Md 0 12 rfl (by decide) kw_646 rfl rfl d_Md_pack_159 ?_
      refine x_iload_n F d_Md_pack_162 1 rfl rfl ?_
      refine x_iload F d_Md_pack_163 5 rfl ?_
      refine x_iadd F d_Md_pack_165 ?_
      refine x_aload_n F d_Md_pack_166 0 rfl rfl ?_
      refine x_get F ck_Md hin_Md 0 6 rfl (by decide) kw_640 rfl rfl d_Md_pack_167 ?_
      refine x_aload_n F d_Md_pack_170 0 rfl rfl ?_
      refine x_get F ck_Md hin_Md 0 12 rfl (by decide) kw_646 rfl rfl d_Md_pack_171 ?_
      refine x_iload F d_Md_pack_174 4 rfl ?_
      refine x_iload F d_Md_pack_176 5 rfl ?_
      refine x_iadd F d_Md_pack_178 ?_
      replace hm := xm_rd_some hm
      obtain ⟨v58, e_v58, b_v58, hm⟩ := hm
      refine x_iald (x := (Md_parts s0)) F 11 rfl e_v58 b_v58 d_Md_pack_179 ?_
      replace hm := xm_rd_some hm
      obtain ⟨v59, e_v59, b_v59, hm⟩ := hm
      refine x_iald (x := (Md_leaders s0)) F 7 rfl e_v59 b_v59 d_Md_pack_180 ?_
      replace hm := xm_wr_some hm
      obtain ⟨a60, e_a60, b_a60, hm⟩ := hm
      refine x_iast (x := (Md_parts s0)) (x' := a60) (ws' := [((ob0 0), .inr (8, [.ref (ob0 1), .ref (ob0 2), .ref (ob0 3), .ref (ob0 4), .ref (ob0 5), .ref (ob0 6), .ref (ob0 7), .ref (ob0 8), .ref (ob0 9), .int (Md_end s0), .int (Md_nodes s0), .ref (ob0 10), .ref (ob0 11), .int (Md_fields s0), .ref (ob0 12), .ref (ob0 13), .int (Md_pushed s0), .ref (ob0 14), .int (Md_touches s0), .ref (ob0 15), .ref (ob0 16), .ref (ob0 17), .ref (ob0 18), .ref (ad0 0), .ref (ad0 1), .int (Md_length s0)])), ((ob0 1), .inl (cA 1, (Md_kinds s0).1, .inl (Md_kinds s0).2)), ((ob0 2), .inl (cA 0, (Md_values s0).1, .inl (Md_values s0).2)), ((ob0 3), .inl (cA 0, (Md_firsts s0).1, .inl (Md_firsts s0).2)), ((ob0 4), .inl (cA 0, (Md_manies s0).1, .inl (Md_manies s0).2)), ((ob0 5), .inl (cA 2, (Md_said s0).1, .inl (Md_said s0).2)), ((ob0 6), .inl (cA 2, (Md_marked s0).1, .inl (Md_marked s0).2)), ((ob0 7), .inl (cA 0, (Md_leaders s0).1, .inl (Md_leaders s0).2)), ((ob0 8), .inl (cA 0, (Md_trial s0).1, .inl (Md_trial s0).2)), ((ob0 9), .inl (cA 0, (Md_shown s0).1, .inl (Md_shown s0).2)), ((ob0 10), .inl (cA 0, a57.1, .inl a57.2)), ((ob0 11), .inl (cA 0, a60.1, .inl a60.2)), ((ob0 12), .inl (cA 0, (Md_pushedFeatures s0).1, .inl (Md_pushedFeatures s0).2)), ((ob0 13), .inl (cA 0, (Md_pushedParts s0).1, .inl (Md_pushedParts s0).2)), ((ob0 14), .inl (cA 0, (Md_touched s0).1, .inl (Md_touched s0).2)), ((ob0 15), .inl (cA 0, (Md_reached s0).1, .inl (Md_reached s0).2)), ((ob0 16), .inl (cA 0, (Md_blocks s0).1, .inl (Md_blocks s0).2)), ((ob0 17), .inl (cA 0, (Md_newBlocks s0).1, .inl (Md_newBlocks s0).2)), ((ob0 18), .inl (cA 0, (Md_places s0).1, .inl (Md_places s0).2)), ((ad0 0), .inl (cA 0, (Md_written s0).1, .inl (Md_written s0).2)), ((ad0 1), .inl (cA 0, (Md_other s0).1, .inl (Md_other s0).2))]) F 11 rfl e_a60 b_a60 rfl d_Md_pack_181 ?_
      refine x_iinc (v := (x5 + 1)) (lv' := [(5, .int (x5 + 1)), (0, .ref (ob0 0)), (1, .int y1), (2, .int y2), (3, .int y3), (4, .int y4)]) F d_Md_pack_182 5 rfl rfl (by decide) rfl ?_
      refine x_goto F 128 d_Md_pack_185 (by decide) ?_
      refine x_sub [0, 1, 2, 3, 4, 5, 6, 7, 8, 9, 10, 11, 12, 13, 14, 15, 16, 17, 18, 19, 20] (by decide) ?_ (x_lv [1, 2, 3, 4, 5, 0] ?_ (ih (x5 + 1) ((Md_kinds s0), (Md_values s0), (Md_firsts s0), (Md_manies s0), (Md_said s0), (Md_marked s0), (Md_leaders s0), (Md_trial s0), (Md_shown s0), (Md_end s0), (Md_nodes s0), a57, a60, (Md_fields s0), (Md_pushedFeatures s0), (Md_pushedParts s0), (Md_pushed s0), (Md_touched s0), (Md_touches s0), (Md_reached s0), (Md_blocks s0), (Md_newBlocks s0), (Md_places s0), (Md_written s0), (Md_other s0), (Md_length s0)) ad0 _ _ out k hm (by omega) (by omega) (fun ad => x_cs (by omega) (by omega) (KX ad))))
      · rfl
      · rfl
set_option maxHeartbeats 4000000 in
set_option maxRecDepth 100000 in
theorem wl_Md_pack_4 {X : XT} {l : Launch} {D : va_G} {cA : Nat → ClassId} {mc ms : Nat} (F : XF X l D cA b_Md_pack 6 none R_Md 0 0 mc ms) (n : Nat) (ob0 : Nat → Nat)    : ∀ (i : Nat) (x1 : Int32) (x2 : Int32) (s0 : S_Md) (ad0 : Nat → Nat) (nc ns : Nat) (out : Int32 × Int32 × S_Md) (k : KC), L_Md_pack_4  n i x1 x2 s0 = some (out, k) → nc + k.1 ≤ mc → ns + k.2 ≤ ms → (∀ ad : Nat → Nat, XW X 6 ((w_Md cA ob0 ad  (out.2.2))) (nc + k.1) (ns + k.2) 217 [(0, .ref (ob0 0)), (1, .int (out.1)), (2, .int (out.2.1))] []) → XW X 6 ((w_Md cA ob0 ad0  s0)) nc ns 4 [(0, .ref (ob0 0)), (1, .int x1), (2, .int x2)] [] := by
  intro i
  induction i with
  | zero =>
    intro x1 x2 s0 ad0 nc ns out k hm
    replace hm : (none : MO (Int32 × Int32 × S_Md)) = some (out, k) := hm
    cases hm
  | succ i ih =>
    intro x1 x2 s0 ad0 nc ns out k hm hc hs KX
    rw [L_Md_pack_4_s] at hm
    refine x_ws (ws' := [((ob0 0), .inr (8, [.ref (ob0 1), .ref (ob0 2), .ref (ob0 3), .ref (ob0 4), .ref (ob0 5), .ref (ob0 6), .ref (ob0 7), .ref (ob0 8), .ref (ob0 9), .int (Md_end s0), .int (Md_nodes s0), .ref (ob0 10), .ref (ob0 11), .int (Md_fields s0), .ref (ob0 12), .ref (ob0 13), .int (Md_pushed s0), .ref (ob0 14), .int (Md_touches s0), .ref (ob0 15), .ref (ob0 16), .ref (ob0 17), .ref (ob0 18), .ref (ad0 0), .ref (ad0 1), .int (Md_length s0)])), ((ob0 1), .inl (cA 1, (Md_kinds s0).1, .inl (Md_kinds s0).2)), ((ob0 2), .inl (cA 0, (Md_values s0).1, .inl (Md_values s0).2)), ((ob0 3), .inl (cA 0, (Md_firsts s0).1, .inl (Md_firsts s0).2)), ((ob0 4), .inl (cA 0, (Md_manies s0).1, .inl (Md_manies s0).2)), ((ob0 5), .inl (cA 2, (Md_said s0).1, .inl (Md_said s0).2)), ((ob0 6), .inl (cA 2, (Md_marked s0).1, .inl (Md_marked s0).2)), ((ob0 7), .inl (cA 0, (Md_leaders s0).1, .inl (Md_leaders s0).2)), ((ob0 8), .inl (cA 0, (Md_trial s0).1, .inl (Md_trial s0).2)), ((ob0 9), .inl (cA 0, (Md_shown s0).1, .inl (Md_shown s0).2)), ((ob0 10), .inl (cA 0, (Md_features s0).1, .inl (Md_features s0).2)), ((ob0 11), .inl (cA 0, (Md_parts s0).1, .inl (Md_parts s0).2)), ((ob0 12), .inl (cA 0, (Md_pushedFeatures s0).1, .inl (Md_pushedFeatures s0).2)), ((ob0 13), .inl (cA 0, (Md_pushedParts s0).1, .inl (Md_pushedParts s0).2)), ((ob0 14), .inl (cA 0, (Md_touched s0).1, .inl (Md_touched s0).2)), ((ob0 15), .inl (cA 0, (Md_reached s0).1, .inl (Md_reached s0).2)), ((ob0 16), .inl (cA 0, (Md_blocks s0).1, .inl (Md_blocks s0).2)), ((ob0 17), .inl (cA 0, (Md_newBlocks s0).1, .inl (Md_newBlocks s0).2)), ((ob0 18), .inl (cA 0, (Md_places s0).1, .inl (Md_places s0).2)), ((ad0 0), .inl (cA 0, (Md_written s0).1, .inl (Md_written s0).2)), ((ad0 1), .inl (cA 0, (Md_other s0).1, .inl (Md_other s0).2))]) rfl ?_
    refine x_iload_n F d_Md_pack_4 2 rfl rfl ?_
    refine x_aload_n F d_Md_pack_5 0 rfl rfl ?_
    refine x_get F ck_Md hin_Md 0 13 rfl (by decide) kw_647 rfl rfl d_Md_pack_6 ?_
    refine x_icmp_ge F 217 d_Md_pack_9 (by decide) (fun c26 => ?_) (fun c26 => ?_)
    · replace hm := xm_t hm c26
      replace hm := xm_p_some hm
      obtain ⟨eo, c_o, d_o⟩ := hm
      subst eo
      refine x_sub [0, 1, 2, 3, 4, 5, 6, 7, 8, 9, 10, 11, 12, 13, 14, 15, 16, 17, 18, 19, 20] (by decide) ?_ (x_lv [0, 1, 2] ?_ (x_cs (by omega) (by omega) (KX ad0)))
      · rfl
      · rfl
    · replace hm := xm_f hm c26
      refine x_iconst (v := (-1 : Int32)) F d_Md_pack_12 (by decide) ?_
      refine x_istore_n (lv' := [(3, .int (-1 : Int32)), (0, .ref (ob0 0)), (1, .int x1), (2, .int x2)]) F d_Md_pack_13 rfl (by decide) rfl ?_
      refine x_iconst (v := (0 : Int32)) F d_Md_pack_14 (by decide) ?_
      refine x_istore (lv' := [(4, .int (0 : Int32)), (3, .int (-1 : Int32)), (0, .ref (ob0 0)), (1, .int x1), (2, .int x2)]) F d_Md_pack_15 (by decide) rfl ?_
      replace hm := xm_b_some hm
      obtain ⟨o47, k48, k49, h50, hm, c_o47, d_o47⟩ := hm
      refine x_sub [0, 1, 2, 3, 4, 5, 6, 7, 8, 9, 10, 11, 12, 13, 14, 15, 16, 17, 18, 19, 20] (by decide) ?_ (x_lv [2, 3, 4, 1, 0] ?_ (wl_Md_pack_17 F n ob0 x1 x2 s0 ad0 n (-1 : Int32) (0 : Int32)  _ _ o47 k48 h50 (by omega) (by omega) (fun ad51 => ?_)))
      · rfl
      · rfl
      refine x_nf2 (ws' := [((ob0 0), .inr (8, [.ref (ob0 1), .ref (ob0 2), .ref (ob0 3), .ref (ob0 4), .ref (ob0 5), .ref (ob0 6), .ref (ob0 7), .ref (ob0 8), .ref (ob0 9), .int (Md_end s0), .int (Md_nodes s0), .ref (ob0 10), .ref (ob0 11), .int (Md_fields s0), .ref (ob0 12), .ref (ob0 13), .int (Md_pushed s0), .ref (ob0 14), .int (Md_touches s0), .ref (ob0 15), .ref (ob0 16), .ref (ob0 17), .ref (ob0 18), .ref (ad0 0), .ref (ad0 1), .int (Md_length s0)])), ((ob0 1), .inl (cA 1, (Md_kinds s0).1, .inl (Md_kinds s0).2)), ((ob0 2), .inl (cA 0, (Md_values s0).1, .inl (Md_values s0).2)), ((ob0 3), .inl (cA 0, (Md_firsts s0).1, .inl (Md_firsts s0).2)), ((ob0 4), .inl (cA 0, (Md_manies s0).1, .inl (Md_manies s0).2)), ((ob0 5), .inl (cA 2, (Md_said s0).1, .inl (Md_said s0).2)), ((ob0 6), .inl (cA 2, (Md_marked s0).1, .inl (Md_marked s0).2)), ((ob0 7), .inl (cA 0, (Md_leaders s0).1, .inl (Md_leaders s0).2)), ((ob0 8), .inl (cA 0, (Md_trial s0).1, .inl (Md_trial s0).2)), ((ob0 9), .inl (cA 0, (Md_shown s0).1, .inl (Md_shown s0).2)), ((ob0 10), .inl (cA 0, (Md_features s0).1, .inl (Md_features s0).2)), ((ob0 11), .inl (cA 0, (Md_parts s0).1, .inl (Md_parts s0).2)), ((ob0 12), .inl (cA 0, (Md_pushedFeatures s0).1, .inl (Md_pushedFeatures s0).2)), ((ob0 13), .inl (cA 0, (Md_pushedParts s0).1, .inl (Md_pushedParts s0).2)), ((ob0 14), .inl (cA 0, (Md_touched s0).1, .inl (Md_touched s0).2)), ((ob0 15), .inl (cA 0, (Md_reached s0).1, .inl (Md_reached s0).2)), ((ob0 16), .inl (cA 0, (Md_blocks s0).1, .inl (Md_blocks s0).2)), ((ob0 17), .inl (cA 0, (Md_newBlocks s0).1, .inl (Md_newBlocks s0).2)), ((ob0 18), .inl (cA 0, (Md_places s0).1, .inl (Md_places s0).2)), ((ad0 0), .inl (cA 0, (Md_written s0).1, .inl (Md_written s0).2)), ((ad0 1), .inl (cA 0, (Md_other s0).1, .inl (Md_other s0).2))]) (lv' := [(0, .ref (ob0 0)), (1, .int x1), (2, .int x2), (3, .int (o47.1)), (4, .int (o47.2))]) rfl rfl ?_
      refine x_iload_n F d_Md_pack_104 3 rfl rfl ?_
      refine x_iconst (v := (-1 : Int32)) F d_Md_pack_105 (by decide) ?_
      refine x_icmp_ne F 117 d_Md_pack_106 (by decide) (fun c52 => ?_) (fun c52 => ?_)
      · replace hm := xm_f hm c52
        refine x_aload_n F d_Md_pack_117 0 rfl rfl ?_
        refine x_get F ck_Md hin_Md 0 2 rfl (by decide) kw_636 rfl rfl d_Md_pack_118 ?_
        refine x_iload_n F d_Md_pack_121 3 rfl rfl ?_
        replace hm := xm_rd_some hm
        obtain ⟨v53, e_v53, b_v53, hm⟩ := hm
        refine x_iald (x := (Md_firsts s0)) F 3 rfl e_v53 b_v53 d_Md_pack_122 ?_
        refine x_istore (lv' := [(4, .int v53), (0, .ref (ob0 0)), (1, .int x1), (2, .int x2), (3, .int (o47.1))]) F d_Md_pack_123 (by decide) rfl ?_
        refine x_iconst (v := (0 : Int32)) F d_Md_pack_125 (by decide) ?_
        refine x_istore (lv' := [(5, .int (0 : Int32)), (4, .int v53), (0, .ref (ob0 0)), (1, .int x1), (2, .int x2), (3, .int (o47.1))]) F d_Md_pack_126 (by decide) rfl ?_
        replace hm := xm_b_some hm
        obtain ⟨o61, k62, k63, h64, hm, c_o61, d_o61⟩ := hm
        refine x_sub [0, 1, 2, 3, 4, 5, 6, 7, 8, 9, 10, 11, 12, 13, 14, 15, 16, 17, 18, 19, 20] (by decide) ?_ (x_lv [2, 3, 4, 5, 1, 0] ?_ (wl_Md_pack_128 F n ob0 x1 x2 (o47.1) v53  n (0 : Int32) s0 ad0 _ _ o61 k62 h64 (by omega) (by omega) (fun ad65 => ?_)))
        · rfl
        · rfl
        refine x_nf2 (ws' := [((ob0 0), .inr (8, [.ref (ob0 1), .ref (ob0 2), .ref (ob0 3), .ref (ob0 4), .ref (ob0 5), .ref (ob0 6), .ref (ob0 7), .ref (ob0 8), .ref (ob0 9), .int (Md_end (o61.2)), .int (Md_nodes (o61.2)), .ref (ob0 10), .ref (ob0 11), .int (Md_fields (o61.2)), .ref (ob0 12), .ref (ob0 13), .int (Md_pushed (o61.2)), .ref (ob0 14), .int (Md_touches (o61.2)), .ref (ob0 15), .ref (ob0 16), .ref (ob0 17), .ref (ob0 18), .ref (ad65 0), .ref (ad65 1), .int (Md_length (o61.2))])), ((ob0 1), .inl (cA 1, (Md_kinds (o61.2)).1, .inl (Md_kinds (o61.2)).2)), ((ob0 2), .inl (cA 0, (Md_values (o61.2)).1, .inl (Md_values (o61.2)).2)), ((ob0 3), .inl (cA 0, (Md_firsts (o61.2)).1, .inl (Md_firsts (o61.2)).2)), ((ob0 4), .inl (cA 0, (Md_manies (o61.2)).1, .inl (Md_manies (o61.2)).2)), ((ob0 5), .inl (cA 2, (Md_said (o61.2)).1, .inl (Md_said (o61.2)).2)), ((ob0 6), .inl (cA 2, (Md_marked (o61.2)).1, .inl (Md_marked (o61.2)).2)), ((ob0 7), .inl (cA 0, (Md_leaders (o61.2)).1, .inl (Md_leaders (o61.2)).2)), ((ob0 8), .inl (cA 0, (Md_trial (o61.2)).1, .inl (Md_trial (o61.2)).2)), ((ob0 9), .inl (cA 0, (Md_shown (o61.2)).1, .inl (Md_shown (o61.2)).2)), ((ob0 10), .inl (cA 0, (Md_features (o61.2)).1, .inl (Md_features (o61.2)).2)), ((ob0 11), .inl (cA 0, (Md_parts (o61.2)).1, .inl (Md_parts (o61.2)).2)), ((ob0 12), .inl (cA 0, (Md_pushedFeatures (o61.2)).1, .inl (Md_pushedFeatures (o61.2)).2)), ((ob0 13), .inl (cA 0, (Md_pushedParts (o61.2)).1, .inl (Md_pushedParts (o61.2)).2)), ((ob0 14), .inl (cA 0, (Md_touched (o61.2)).1, .inl (Md_touched (o61.2)).2)), ((ob0 15), .inl (cA 0, (Md_reached (o61.2)).1, .inl (Md_reached (o61.2)).2)), ((ob0 16), .inl (cA 0, (Md_blocks (o61.2)).1, .inl (Md_blocks (o61.2)).2)), ((ob0 17), .inl (cA 0, (Md_newBlocks (o61.2)).1, .inl (Md_newBlocks (o61.2)).2)), ((ob0 18), .inl (cA 0, (Md_places (o61.2)).1, .inl (Md_places (o61.2)).2)), ((ad65 0), .inl (cA 0, (Md_written (o61.2)).1, .inl (Md_written (o61.2)).2)), ((ad65 1), .inl (cA 0, (Md_other (o61.2)).1, .inl (Md_other (o61.2)).2))]) (lv' := [(0, .ref (ob0 0)), (1, .int x1), (2, .int x2), (3, .int (o47.1)), (4, .int v53), (5, .int (o61.1))]) rfl rfl ?_
        refine x_aload_n F d_Md_pack_188 0 rfl rfl ?_
        refine x_get F ck_Md hin_Md 0 2 rfl (by decide) kw_636 rfl rfl d_Md_pack_189 ?_
        refine x_iload_n F d_Md_pack_192 3 rfl rfl ?_
        refine x_iload_n F d_Md_pack_193 1 rfl rfl ?_
        replace hm := xm_wr_some hm
        obtain ⟨a66, e_a66, b_a66, hm⟩ := hm
        refine x_iast (x := (Md_firsts (o61.2))) (x' := a66) (ws' := [((ob0 0), .inr (8, [.ref (ob0 1), .ref (ob0 2), .ref (ob0 3), .ref (ob0 4), .ref (ob0 5), .ref (ob0 6), .ref (ob0 7), .ref (ob0 8), .ref (ob0 9), .int (Md_end (o61.2)), .int (Md_nodes (o61.2)), .ref (ob0 10), .ref (ob0 11), .int (Md_fields (o61.2)), .ref (ob0 12), .ref (ob0 13), .int (Md_pushed (o61.2)), .ref (ob0 14), .int (Md_touches (o61.2)), .ref (ob0 15), .ref (ob0 16), .ref (ob0 17), .ref (ob0 18), .ref (ad65 0), .ref (ad65 1), .int (Md_length (o61.2))])), ((ob0 1), .inl (cA 1, (Md_kinds (o61.2)).1, .inl (Md_kinds (o61.2)).2)), ((ob0 2), .inl (cA 0, (Md_values (o61.2)).1, .inl (Md_values (o61.2)).2)), ((ob0 3), .inl (cA 0, a66.1, .inl a66.2)), ((ob0 4), .inl (cA 0, (Md_manies (o61.2)).1, .inl (Md_manies (o61.2)).2)), ((ob0 5), .inl (cA 2, (Md_said (o61.2)).1, .inl (Md_said (o61.2)).2)), ((ob0 6), .inl (cA 2, (Md_marked (o61.2)).1, .inl (Md_marked (o61.2)).2)), ((ob0 7), .inl (cA 0, (Md_leaders (o61.2)).1, .inl (Md_leaders (o61.2)).2)), ((ob0 8), .inl (cA 0, (Md_trial (o61.2)).1, .inl (Md_trial (o61.2)).2)), ((ob0 9), .inl (cA 0, (Md_shown (o61.2)).1, .inl (Md_shown (o61.2)).2)), ((ob0 10), .inl (cA 0, (Md_features (o61.2)).1, .inl (Md_features (o61.2)).2)), ((ob0 11), .inl (cA 0, (Md_parts (o61.2)).1, .inl (Md_parts (o61.2)).2)), ((ob0 12), .inl (cA 0, (Md_pushedFeatures (o61.2)).1, .inl (Md_pushedFeatures (o61.2)).2)), ((ob0 13), .inl (cA 0, (Md_pushedParts (o61.2)).1, .inl (Md_pushedParts (o61.2)).2)), ((ob0 14), .inl (cA 0, (Md_touched (o61.2)).1, .inl (Md_touched (o61.2)).2)), ((ob0 15), .inl (cA 0, (Md_reached (o61.2)).1, .inl (Md_reached (o61.2)).2)), ((ob0 16), .inl (cA 0, (Md_blocks (o61.2)).1, .inl (Md_blocks (o61.2)).2)), ((ob0 17), .inl (cA 0, (Md_newBlocks (o61.2)).1, .inl (Md_newBlocks (o61.2)).2)), ((ob0 18), .inl (cA 0, (Md_places (o61.2)).1, .inl (Md_places (o61.2)).2)), ((ad65 0), .inl (cA 0, (Md_written (o61.2)).1, .inl (Md_written (o61.2)).2)), ((ad65 1), .inl (cA 0, (Md_other (o61.2)).1, .inl (Md_other (o61.2)).2))]) F 3 rfl e_a66 b_a66 rfl d_Md_pack_194 ?_
        refine x_iload F d_Md_pack_195 4 rfl ?_
        refine x_aload_n F d_Md_pack_197 0 rfl rfl ?_
        refine x_get F ck_Md hin_Md 0 3 rfl (by decide) kw_637 rfl rfl d_Md_pack_198 ?_
        refine x_iload_n F d_Md_pack_201 3 rfl rfl ?_
        replace hm := xm_rd_some hm
        obtain ⟨v67, e_v67, b_v67, hm⟩ := hm
        refine x_iald (x := (Md_manies (o61.2))) F 4 rfl e_v67 b_v67 d_Md_pack_202 ?_
        refine x_iadd F d_Md_pack_203 ?_
        refine x_istore_n (lv' := [(2, .int (v53 + v67)), (0, .ref (ob0 0)), (1, .int x1), (3, .int (o47.1)), (4, .int v53), (5, .int (o61.1))]) F d_Md_pack_204 rfl (by decide) rfl ?_
        refine x_iload_n F d_Md_pack_205 2 rfl rfl ?_
        refine x_aload_n F d_Md_pack_206 1 rfl rfl ?_
        refine x_get F ck_Md hin_Md 0 3 rfl (by decide) kw_637 rfl rfl d_Md_pack_207 ?_
        refine x_iload_n F d_Md_pack_210 3 rfl rfl ?_
        replace hm := xm_rd_some hm
        obtain ⟨v68, e_v68, b_v68, hm⟩ := hm
        refine x_iald (x := (Md_manies (o61.2))) F 4 rfl e_v68 b_v68 d_Md_pack_211 ?_
        refine x_iadd F d_Md_pack_212 ?_
        refine x_istore_n (lv' := [(1, .int (x1 + v68)), (2, .int (v53 + v67)), (0, .ref (ob0 0)), (3, .int (o47.1)), (4, .int v53), (5, .int (o61.1))]) F d_Md_pack_213 rfl (by decide) rfl ?_
        refine x_goto F 4 d_Md_pack_214 (by decide) ?_
        refine x_sub [0, 1, 2, 3, 4, 5, 6, 7, 8, 9, 10, 11, 12, 13, 14, 15, 16, 17, 18, 19, 20] (by decide) ?_ (x_lv [2, 0, 1] ?_ (ih (x1 + v68) (v53 + v67) ((Md_kinds (o61.2)), (Md_values (o61.2)), a66, (Md_manies (o61.2)), (Md_said (o61.2)), (Md_marked (o61.2)), (Md_leaders (o61.2)), (Md_trial (o61.2)), (Md_shown (o61.2)), (Md_end (o61.2)), (Md_nodes (o61.2)), (Md_features (o61.2)), (Md_parts (o61.2)), (Md_fields (o61.2)), (Md_pushedFeatures (o61.2)), (Md_pushedParts (o61.2)), (Md_pushed (o61.2)), (Md_touched (o61.2)), (Md_touches (o61.2)), (Md_reached (o61.2)), (Md_blocks (o61.2)), (Md_newBlocks (o61.2)), (Md_places (o61.2)), (Md_written (o61.2)), (Md_other (o61.2)), (Md_length (o61.2))) ad65 _ _ out k63 hm (by omega) (by omega) (fun ad => x_cs (by omega) (by omega) (KX ad))))
        · rfl
        · rfl
      · replace hm := xm_t hm c52
        refine x_aload_n F d_Md_pack_109 0 rfl rfl ?_
        refine x_get F ck_Md hin_Md 0 13 rfl (by decide) kw_647 rfl rfl d_Md_pack_110 ?_
        refine x_istore_n (lv' := [(2, .int (Md_fields s0)), (0, .ref (ob0 0)), (1, .int x1), (3, .int (o47.1)), (4, .int (o47.2))]) F d_Md_pack_113 rfl (by decide) rfl ?_
        refine x_goto F 214 d_Md_pack_114 (by decide) ?_
        refine x_goto F 4 d_Md_pack_214 (by decide) ?_
        refine x_sub [0, 1, 2, 3, 4, 5, 6, 7, 8, 9, 10, 11, 12, 13, 14, 15, 16, 17, 18, 19, 20] (by decide) ?_ (x_lv [1, 2, 0] ?_ (ih x1 (Md_fields s0) s0 ad0 _ _ out k49 hm (by omega) (by omega) (fun ad => x_cs (by omega) (by omega) (KX ad))))
        · rfl
        · rfl
set_option maxHeartbeats 4000000 in
set_option maxRecDepth 100000 in
theorem c_Md_pack (l : Launch) (D : va_G) (cA : Nat → ClassId) (n : Nat) (ob0 ad0 : Nat → Nat) (s0 : S_Md)  (out : S_Md) (k : KC) (hm : m_Md_pack n s0  = some (out, k)) : XM l D cA y_Md_pack b_Md_pack 6 none 0 0 [.ref (ob0 0)] ((w_Md cA ob0 ad0  s0)) k (fun _ => none) (fun ad => (w_Md cA ob0 ad  out)) := by
  refine x_met (cc := b_Md_pack) (nL := 6) (ret := none) R_Md (by decide) (Nat.le_of_ble_eq_true rfl) rfl (fun X F I E => ?_)
  unfold m_Md_pack at hm
  refine x_nf2 (ws' := [((ob0 0), .inr (8, [.ref (ob0 1), .ref (ob0 2), .ref (ob0 3), .ref (ob0 4), .ref (ob0 5), .ref (ob0 6), .ref (ob0 7), .ref (ob0 8), .ref (ob0 9), .int (Md_end s0), .int (Md_nodes s0), .ref (ob0 10), .ref (ob0 11), .int (Md_fields s0), .ref (ob0 12), .ref (ob0 13), .int (Md_pushed s0), .ref (ob0 14), .int (Md_touches s0), .ref (ob0 15), .ref (ob0 16), .ref (ob0 17), .ref (ob0 18), .ref (ad0 0), .ref (ad0 1), .int (Md_length s0)])), ((ob0 1), .inl (cA 1, (Md_kinds s0).1, .inl (Md_kinds s0).2)), ((ob0 2), .inl (cA 0, (Md_values s0).1, .inl (Md_values s0).2)), ((ob0 3), .inl (cA 0, (Md_firsts s0).1, .inl (Md_firsts s0).2)), ((ob0 4), .inl (cA 0, (Md_manies s0).1, .inl (Md_manies s0).2)), ((ob0 5), .inl (cA 2, (Md_said s0).1, .inl (Md_said s0).2)), ((ob0 6), .inl (cA 2, (Md_marked s0).1, .inl (Md_marked s0).2)), ((ob0 7), .inl (cA 0, (Md_leaders s0).1, .inl (Md_leaders s0).2)), ((ob0 8), .inl (cA 0, (Md_trial s0).1, .inl (Md_trial s0).2)), ((ob0 9), .inl (cA 0, (Md_shown s0).1, .inl (Md_shown s0).2)), ((ob0 10), .inl (cA 0, (Md_features s0).1, .inl (Md_features s0).2)), ((ob0 11), .inl (cA 0, (Md_parts s0).1, .inl (Md_parts s0).2)), ((ob0 12), .inl (cA 0, (Md_pushedFeatures s0).1, .inl (Md_pushedFeatures s0).2)), ((ob0 13), .inl (cA 0, (Md_pushedParts s0).1, .inl (Md_pushedParts s0).2)), ((ob0 14), .inl (cA 0, (Md_touched s0).1, .inl (Md_touched s0).2)), ((ob0 15), .inl (cA 0, (Md_reached s0).1, .inl (Md_reached s0).2)), ((ob0 16), .inl (cA 0, (Md_blocks s0).1, .inl (Md_blocks s0).2)), ((ob0 17), .inl (cA 0, (Md_newBlocks s0).1, .inl (Md_newBlocks s0).2)), ((ob0 18), .inl (cA 0, (Md_places s0).1, .inl (Md_places s0).2)), ((ad0 0), .inl (cA 0, (Md_written s0).1, .inl (Md_written s0).2)), ((ad0 1), .inl (cA 0, (Md_other s0).1, .inl (Md_other s0).2))]) (lv' := [(0, .ref (ob0 0))]) rfl rfl ?_
  refine x_iconst (v := (0 : Int32)) F d_Md_pack_0 (by decide) ?_
  refine x_istore_n (lv' := [(1, .int (0 : Int32)), (0, .ref (ob0 0))]) F d_Md_pack_1 rfl (by decide) rfl ?_
  refine x_iconst (v := (0 : Int32)) F d_Md_pack_2 (by decide) ?_
  refine x_istore_n (lv' := [(2, .int (0 : Int32)), (1, .int (0 : Int32)), (0, .ref (ob0 0))]) F d_Md_pack_3 rfl (by decide) rfl ?_
  replace hm := xm_b_some hm
  obtain ⟨o69, k70, k71, h72, hm, c_o69, d_o69⟩ := hm
  refine x_sub [0, 1, 2, 3, 4, 5, 6, 7, 8, 9, 10, 11, 12, 13, 14, 15, 16, 17, 18, 19, 20] (by decide) ?_ (x_lv [2, 1, 0] ?_ (wl_Md_pack_4 F n ob0   n (0 : Int32) (0 : Int32) s0 ad0 _ _ o69 k70 h72 (by omega) (by omega) (fun ad73 => ?_)))
  · rfl
  · rfl
  refine x_nf2 (ws' := [((ob0 0), .inr (8, [.ref (ob0 1), .ref (ob0 2), .ref (ob0 3), .ref (ob0 4), .ref (ob0 5), .ref (ob0 6), .ref (ob0 7), .ref (ob0 8), .ref (ob0 9), .int (Md_end (o69.2.2)), .int (Md_nodes (o69.2.2)), .ref (ob0 10), .ref (ob0 11), .int (Md_fields (o69.2.2)), .ref (ob0 12), .ref (ob0 13), .int (Md_pushed (o69.2.2)), .ref (ob0 14), .int (Md_touches (o69.2.2)), .ref (ob0 15), .ref (ob0 16), .ref (ob0 17), .ref (ob0 18), .ref (ad73 0), .ref (ad73 1), .int (Md_length (o69.2.2))])), ((ob0 1), .inl (cA 1, (Md_kinds (o69.2.2)).1, .inl (Md_kinds (o69.2.2)).2)), ((ob0 2), .inl (cA 0, (Md_values (o69.2.2)).1, .inl (Md_values (o69.2.2)).2)), ((ob0 3), .inl (cA 0, (Md_firsts (o69.2.2)).1, .inl (Md_firsts (o69.2.2)).2)), ((ob0 4), .inl (cA 0, (Md_manies (o69.2.2)).1, .inl (Md_manies (o69.2.2)).2)), ((ob0 5), .inl (cA 2, (Md_said (o69.2.2)).1, .inl (Md_said (o69.2.2)).2)), ((ob0 6), .inl (cA 2, (Md_marked (o69.2.2)).1, .inl (Md_marked (o69.2.2)).2)), ((ob0 7), .inl (cA 0, (Md_leaders (o69.2.2)).1, .inl (Md_leaders (o69.2.2)).2)), ((ob0 8), .inl (cA 0, (Md_trial (o69.2.2)).1, .inl (Md_trial (o69.2.2)).2)), ((ob0 9), .inl (cA 0, (Md_shown (o69.2.2)).1, .inl (Md_shown (o69.2.2)).2)), ((ob0 10), .inl (cA 0, (Md_features (o69.2.2)).1, .inl (Md_features (o69.2.2)).2)), ((ob0 11), .inl (cA 0, (Md_parts (o69.2.2)).1, .inl (Md_parts (o69.2.2)).2)), ((ob0 12), .inl (cA 0, (Md_pushedFeatures (o69.2.2)).1, .inl (Md_pushedFeatures (o69.2.2)).2)), ((ob0 13), .inl (cA 0, (Md_pushedParts (o69.2.2)).1, .inl (Md_pushedParts (o69.2.2)).2)), ((ob0 14), .inl (cA 0, (Md_touched (o69.2.2)).1, .inl (Md_touched (o69.2.2)).2)), ((ob0 15), .inl (cA 0, (Md_reached (o69.2.2)).1, .inl (Md_reached (o69.2.2)).2)), ((ob0 16), .inl (cA 0, (Md_blocks (o69.2.2)).1, .inl (Md_blocks (o69.2.2)).2)), ((ob0 17), .inl (cA 0, (Md_newBlocks (o69.2.2)).1, .inl (Md_newBlocks (o69.2.2)).2)), ((ob0 18), .inl (cA 0, (Md_places (o69.2.2)).1, .inl (Md_places (o69.2.2)).2)), ((ad73 0), .inl (cA 0, (Md_written (o69.2.2)).1, .inl (Md_written (o69.2.2)).2)), ((ad73 1), .inl (cA 0, (Md_other (o69.2.2)).1, .inl (Md_other (o69.2.2)).2))]) (lv' := [(0, .ref (ob0 0)), (1, .int (o69.1)), (2, .int (o69.2.1))]) rfl rfl ?_
  refine x_aload_n F d_Md_pack_217 0 rfl rfl ?_
  refine x_iload_n F d_Md_pack_218 1 rfl rfl ?_
  refine x_put (ws' := [((ob0 0), .inr (8, [.ref (ob0 1), .ref (ob0 2), .ref (ob0 3), .ref (ob0 4), .ref (ob0 5), .ref (ob0 6), .ref (ob0 7), .ref (ob0 8), .ref (ob0 9), .int (Md_end (o69.2.2)), .int (Md_nodes (o69.2.2)), .ref (ob0 10), .ref (ob0 11), .int (o69.1), .ref (ob0 12), .ref (ob0 13), .int (Md_pushed (o69.2.2)), .ref (ob0 14), .int (Md_touches (o69.2.2)), .ref (ob0 15), .ref (ob0 16), .ref (ob0 17), .ref (ob0 18), .ref (ad73 0), .ref (ad73 1), .int (Md_length (o69.2.2))])), ((ob0 1), .inl (cA 1, (Md_kinds (o69.2.2)).1, .inl (Md_kinds (o69.2.2)).2)), ((ob0 2), .inl (cA 0, (Md_values (o69.2.2)).1, .inl (Md_values (o69.2.2)).2)), ((ob0 3), .inl (cA 0, (Md_firsts (o69.2.2)).1, .inl (Md_firsts (o69.2.2)).2)), ((ob0 4), .inl (cA 0, (Md_manies (o69.2.2)).1, .inl (Md_manies (o69.2.2)).2)), ((ob0 5), .inl (cA 2, (Md_said (o69.2.2)).1, .inl (Md_said (o69.2.2)).2)), ((ob0 6), .inl (cA 2, (Md_marked (o69.2.2)).1, .inl (Md_marked (o69.2.2)).2)), ((ob0 7), .inl (cA 0, (Md_leaders (o69.2.2)).1, .inl (Md_leaders (o69.2.2)).2)), ((ob0 8), .inl (cA 0, (Md_trial (o69.2.2)).1, .inl (Md_trial (o69.2.2)).2)), ((ob0 9), .inl (cA 0, (Md_shown (o69.2.2)).1, .inl (Md_shown (o69.2.2)).2)), ((ob0 10), .inl (cA 0, (Md_features (o69.2.2)).1, .inl (Md_features (o69.2.2)).2)), ((ob0 11), .inl (cA 0, (Md_parts (o69.2.2)).1, .inl (Md_parts (o69.2.2)).2)), ((ob0 12), .inl (cA 0, (Md_pushedFeatures (o69.2.2)).1, .inl (Md_pushedFeatures (o69.2.2)).2)), ((ob0 13), .inl (cA 0, (Md_pushedParts (o69.2.2)).1, .inl (Md_pushedParts (o69.2.2)).2)), ((ob0 14), .inl (cA 0, (Md_touched (o69.2.2)).1, .inl (Md_touched (o69.2.2)).2)), ((ob0 15), .inl (cA 0, (Md_reached (o69.2.2)).1, .inl (Md_reached (o69.2.2)).2)), ((ob0 16), .inl (cA 0, (Md_blocks (o69.2.2)).1, .inl (Md_blocks (o69.2.2)).2)), ((ob0 17), .inl (cA 0, (Md_newBlocks (o69.2.2)).1, .inl (Md_newBlocks (o69.2.2)).2)), ((ob0 18), .inl (cA 0, (Md_places (o69.2.2)).1, .inl (Md_places (o69.2.2)).2)), ((ad73 0), .inl (cA 0, (Md_written (o69.2.2)).1, .inl (Md_written (o69.2.2)).2)), ((ad73 1), .inl (cA 0, (Md_other (o69.2.2)).1, .inl (Md_other (o69.2.2)).2))]) F ck_Md hin_Md 0 13 rfl (by decide) kw_647 rfl rfl rfl rfl (Nat.le_of_ble_eq_true rfl) rfl d_Md_pack_219 ?_
  replace hm := xm_p_some hm
  obtain ⟨eo, c_o, d_o⟩ := hm
  subst eo
  refine x_sub [0, 1, 2, 3, 4, 5, 6, 7, 8, 9, 10, 11, 12, 13, 14, 15, 16, 17, 18, 19, 20] (by decide) ?_ (xe_v E ad73 (by omega) (by omega)  d_Md_pack_222)
  rfl
