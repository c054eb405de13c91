noncomputable def L_Md_join_44 (y2 : Int32) (y3 : Int32) (y4 : Int32) (y5 : Int32) (n i : Nat) : Int32 → S_Md → MO (Int32 × S_Md) := Nat.rec (motive := fun _ => Int32 → S_Md → MO (Int32 × S_Md)) (fun _ _ => none) (fun _ ih x6 s0 => (if (Md_end s0) ≤ x6 then (xm_p ((x6, s0))) else (if y4 = y5 then (xm_p ((x6, s0))) else (xm_rd (Md_kinds s0) x6 (fun v34 => (xm_b (if v34 = (-1 : Int32) then (xm_rd (Md_trial s0) x6 (fun v41 => (xm_p v41))) else (xm_rd (Md_trial s0) x6 (fun v42 => (if v42 = y5 then (xm_p y4) else (xm_rd (Md_trial s0) x6 (fun v44 => (xm_p v44))))))) (fun j35 => (xm_wr (Md_trial s0) x6 j35 (fun a39 => (ih (x6 + 1) ((Md_kinds s0), (Md_values s0), (Md_firsts s0), (Md_manies s0), (Md_said s0), (Md_marked s0), (Md_leaders s0), a39, (Md_shown s0), (Md_end s0), (Md_nodes s0), (Md_features s0), (Md_parts s0), (Md_fields s0), (Md_pushedFeatures s0), (Md_pushedParts s0), (Md_pushed s0), (Md_touched s0), (Md_touches s0), (Md_reached s0), (Md_blocks s0), (Md_newBlocks s0), (Md_places s0), (Md_written s0), (Md_other s0), (Md_length s0)))))))))))) i
theorem L_Md_join_44_s (y2 : Int32) (y3 : Int32) (y4 : Int32) (y5 : Int32) (n i : Nat) (x6 : Int32) (s0 : S_Md) : L_Md_join_44 y2 y3 y4 y5 n (i + 1) x6 s0 = (if (Md_end s0) ≤ x6 then (xm_p ((x6, s0))) else (if y4 = y5 then (xm_p ((x6, s0))) else (xm_rd (Md_kinds s0) x6 (fun v34 => (xm_b (if v34 = (-1 : Int32) then (xm_rd (Md_trial s0) x6 (fun v41 => (xm_p v41))) else (xm_rd (Md_trial s0) x6 (fun v42 => (if v42 = y5 then (xm_p y4) else (xm_rd (Md_trial s0) x6 (fun v44 => (xm_p v44))))))) (fun j35 => (xm_wr (Md_trial s0) x6 j35 (fun a39 => (L_Md_join_44 y2 y3 y4 y5 n i (x6 + 1) ((Md_kinds s0), (Md_values s0), (Md_firsts s0), (Md_manies s0), (Md_said s0), (Md_marked s0), (Md_leaders s0), a39, (Md_shown s0), (Md_end s0), (Md_nodes s0), (Md_features s0), (Md_parts s0), (Md_fields s0), (Md_pushedFeatures s0), (Md_pushedParts s0), (Md_pushed s0), (Md_touched s0), (Md_touches s0), (Md_reached s0), (Md_blocks s0), (Md_newBlocks s0), (Md_places s0), (Md_written s0), (Md_other s0), (Md_length s0))))))))))) := rfl
noncomputable def m_Md_join (n : Nat) (s0 : S_Md) (p1 : Int32) (p2 : Int32) : MO (Int32 × S_Md) := (xm_rd (Md_trial s0) p1 (fun v20 => (xm_rd (Md_trial s0) p2 (fun v21 => (xm_b (if v21 ≤ v20 then (xm_rd (Md_trial s0) p2 (fun v55 => (xm_p v55))) else (xm_rd (Md_trial s0) p1 (fun v56 => (xm_p v56)))) (fun j22 => (xm_rd (Md_trial s0) p1 (fun v26 => (xm_rd (Md_trial s0) p2 (fun v27 => (xm_b (if v27 ≤ v26 then (xm_rd (Md_trial s0) p1 (fun v52 => (xm_p v52))) else (xm_rd (Md_trial s0) p2 (fun v53 => (xm_p v53)))) (fun j28 => (xm_b (L_Md_join_44 p1 p2 j22 j28 n n j28 s0) (fun o45 => (if j22 = j28 then (xm_p ((0 : Int32), (o45.2))) else (xm_p ((1 : Int32), (o45.2))))))))))))))))))
set_option maxHeartbeats 4000000 in
set_option maxRecDepth 100000 in
theorem wl_Md_join_44 {X : XT} {l : Launch} {D : va_G} {cA : Nat → ClassId} {mc ms : Nat} (F : XF X l D cA b_Md_join 7 (some FieldType.boolean) R_Md 0 0 mc ms) (n : Nat) (ob0 : Nat → Nat) (y2 : Int32) (y3 : Int32) (y4 : Int32) (y5 : Int32)   : ∀ (i : Nat) (x6 : Int32) (s0 : S_Md) (ad0 : Nat → Nat) (nc ns : Nat) (out : Int32 × S_Md) (k : KC), L_Md_join_44 y2 y3 y4 y5 n i x6 s0 = some (out, k) → nc + k.1 ≤ mc → ns + k.2 ≤ ms → (∀ ad : Nat → Nat, XW X 7 ((w_Md cA ob0 ad  (out.2))) (nc + k.1) (ns + k.2) 99 [(0, .ref (ob0 0)), (1, .ref (ob0 8)), (2, .int y2), (3, .int y3), (4, .int y4), (5, .int y5), (6, .int (out.1))] []) → XW X 7 ((w_Md cA ob0 ad0  s0)) nc ns 44 [(0, .ref (ob0 0)), (1, .ref (ob0 8)), (2, .int y2), (3, .int y3), (4, .int y4), (5, .int y5), (6, .int x6)] [] := by
  intro i
  induction i with
  | zero =>
    intro x6 s0 ad0 nc ns out k hm
    replace hm : (none : MO (Int32 × S_Md)) = some (out, k) := hm
    cases hm
  | succ i ih =>
    intro x6 s0 ad0 nc ns out k hm hc hs KX
    rw [L_Md_join_44_s] at hm
    refine x_ws (ws' := [((ob0 0), .inr (8, [.ref (ob0 1), .ref (ob0 2), .ref (ob0 3), .ref (ob0 4), .ref (ob0 5), .ref (ob0 6), .ref (ob0 7), .ref (ob0 8), .ref (ob0 9), .int (Md_end s0), .int (Md_nodes s0), .ref (ob0 10), .ref (ob0 11), .int (Md_fields s0), .ref (ob0 12), .ref (ob0 13), .int (Md_pushed s0), .ref (ob0 14), .int (Md_touches s0), .ref (ob0 15), .ref (ob0 16), .ref (ob0 17), .ref (ob0 18), .ref (ad0 0), .ref (ad0 1), .int (Md_length s0)])), ((ob0 1), .inl (cA 1, (Md_kinds s0).1, .inl (Md_kinds s0).2)), ((ob0 2), .inl (cA 0, (Md_values s0).1, .inl (Md_values s0).2)), ((ob0 3), .inl (cA 0, (Md_firsts s0).1, .inl (Md_firsts s0).2)), ((ob0 4), .inl (cA 0, (Md_manies s0).1, .inl (Md_manies s0).2)), ((ob0 5), .inl (cA 2, (Md_said s0).1, .inl (Md_said s0).2)), ((ob0 6), .inl (cA 2, (Md_marked s0).1, .inl (Md_marked s0).2)), ((ob0 7), .inl (cA 0, (Md_leaders s0).1, .inl (Md_leaders s0).2)), ((ob0 8), .inl (cA 0, (Md_trial s0).1, .inl (Md_trial s0).2)), ((ob0 9), .inl (cA 0, (Md_shown s0).1, .inl (Md_shown s0).2)), ((ob0 10), .inl (cA 0, (Md_features s0).1, .inl (Md_features s0).2)), ((ob0 11), .inl (cA 0, (Md_parts s0).1, .inl (Md_parts s0).2)), ((ob0 12), .inl (cA 0, (Md_pushedFeatures s0).1, .inl (Md_pushedFeatures s0).2)), ((ob0 13), .inl (cA 0, (Md_pushedParts s0).1, .inl (Md_pushedParts s0).2)), ((ob0 14), .inl (cA 0, (Md_touched s0).1, .inl (Md_touched s0).2)), ((ob0 15), .inl (cA 0, (Md_reached s0).1, .inl (Md_reached s0).2)), ((ob0 16), .inl (cA 0, (Md_blocks s0).1, .inl (Md_blocks s0).2)), ((ob0 17), .inl (cA 0, (Md_newBlocks s0).1, .inl (Md_newBlocks s0).2)), ((ob0 18), .inl (cA 0, (Md_places s0).1, .inl (Md_places s0).2)), ((ad0 0), .inl (cA 0, (Md_written s0).1, .inl (Md_written s0).2)), ((ad0 1), .inl (cA 0, (Md_other s0).1, .inl (Md_other s0).2))]) rfl ?_
    refine x_iload F d_Md_join_44 6 rfl ?_
    refine x_aload_n F d_Md_join_46 0 rfl rfl ?_
    refine x_get F ck_Md hin_Md 0 9 rfl (by decide) kw_643 rfl rfl d_Md_join_47 ?_
    refine x_icmp_ge F 99 d_Md_join_50 (by decide) (fun c32 => ?_) (fun c32 => ?_)
    · replace hm := xm_t hm c32
      replace hm := xm_p_some hm
      obtain ⟨eo, c_o, d_o⟩ := hm
      subst eo
      refine x_sub [0, 1, 2, 3, 4, 5, 6, 7, 8, 9, 10, 11, 12, 13, 14, 15, 16, 17, 18, 19, 20] (by decide) ?_ (x_lv [0, 1, 2, 3, 4, 5, 6] ?_ (x_cs (by omega) (by omega) (KX ad0)))
      · rfl
      · rfl
    · replace hm := xm_f hm c32
      refine x_iload F d_Md_join_53 4 rfl ?_
      refine x_iload F d_Md_join_55 5 rfl ?_
      refine x_icmp_eq F 99 d_Md_join_57 (by decide) (fun c33 => ?_) (fun c33 => ?_)
      · replace hm := xm_t hm c33
        replace hm := xm_p_some hm
        obtain ⟨eo, c_o, d_o⟩ := hm
        subst eo
        refine x_sub [0, 1, 2, 3, 4, 5, 6, 7, 8, 9, 10, 11, 12, 13, 14, 15, 16, 17, 18, 19, 20] (by decide) ?_ (x_lv [0, 1, 2, 3, 4, 5, 6] ?_ (x_cs (by omega) (by omega) (KX ad0)))
        · rfl
        · rfl
      · replace hm := xm_f hm c33
        refine x_aload_n F d_Md_join_60 1 rfl rfl ?_
        refine x_iload F d_Md_join_61 6 rfl ?_
        refine x_aload_n F d_Md_join_63 0 rfl rfl ?_
        refine x_get F ck_Md hin_Md 0 0 rfl (by decide) kw_634 rfl rfl d_Md_join_64 ?_
        refine x_iload F d_Md_join_67 6 rfl ?_
        replace hm := xm_rd_some hm
        obtain ⟨v34, e_v34, b_v34, hm⟩ := hm
        refine x_bald (x := (Md_kinds s0)) F 1 rfl e_v34 b_v34 d_Md_join_69 ?_
        refine x_iconst (v := (-1 : Int32)) F d_Md_join_70 (by decide) ?_
        replace hm := xm_b_some hm
        obtain ⟨j35, k36, k37, h38, hm, c_j35, d_j35⟩ := hm
        refine x_mrg (k1 := k36) (M := 92) (v := j35) (st := [.int x6, .ref (ob0 8)]) ?_ (fun J => ?_)
        · skip
          replace hm := xm_wr_some hm
          obtain ⟨a39, e_a39, b_a39, hm⟩ := hm
          refine x_iast (x := (Md_trial s0)) (x' := a39) (ws' := [((ob0 0), .inr (8, [.ref (ob0 1), .ref (ob0 2), .ref (ob0 3), .ref (ob0 4), .ref (ob0 5), .ref (ob0 6), .ref (ob0 7), .ref (ob0 8), .ref (ob0 9), .int (Md_end s0), .int (Md_nodes s0), .ref (ob0 10), .ref (ob0 11), .int (Md_fields s0), .ref (ob0 12), .ref (ob0 13), .int (Md_pushed s0), .ref (ob0 14), .int (Md_touches s0), .ref (ob0 15), .ref (ob0 16), .ref (ob0 17), .ref (ob0 18), .ref (ad0 0), .ref (ad0 1), .int (Md_length s0)])), ((ob0 1), .inl (cA 1, (Md_kinds s0).1, .inl (Md_kinds s0).2)), ((ob0 2), .inl (cA 0, (Md_values s0).1, .inl (Md_values s0).2)), ((ob0 3), .inl (cA 0, (Md_firsts s0).1, .inl (Md_firsts s0).2)), ((ob0 4), .inl (cA 0, (Md_manies s0).1, .inl (Md_manies s0).2)), ((ob0 5), .inl (cA 2, (Md_said s0).1, .inl (Md_said s0).2)), ((ob0 6), .inl (cA 2, (Md_marked s0).1, .inl (Md_marked s0).2)), ((ob0 7), .inl (cA 0, (Md_leaders s0).1, .inl (Md_leaders s0).2)), ((ob0 8), .inl (cA 0, a39.1, .inl a39.2)), ((ob0 9), .inl (cA 0, (Md_shown s0).1, .inl (Md_shown s0).2)), ((ob0 10), .inl (cA 0, (Md_features s0).1, .inl (Md_features s0).2)), ((ob0 11), .inl (cA 0, (Md_parts s0).1, .inl (Md_parts s0).2)), ((ob0 12), .inl (cA 0, (Md_pushedFeatures s0).1, .inl (Md_pushedFeatures s0).2)), ((ob0 13), .inl (cA 0, (Md_pushedParts s0).1, .inl (Md_pushedParts s0).2)), ((ob0 14), .inl (cA 0, (Md_touched s0).1, .inl (Md_touched s0).2)), ((ob0 15), .inl (cA 0, (Md_reached s0).1, .inl (Md_reached s0).2)), ((ob0 16), .inl (cA 0, (Md_blocks s0).1, .inl (Md_blocks s0).2)), ((ob0 17), .inl (cA 0, (Md_newBlocks s0).1, .inl (Md_newBlocks s0).2)), ((ob0 18), .inl (cA 0, (Md_places s0).1, .inl (Md_places s0).2)), ((ad0 0), .inl (cA 0, (Md_written s0).1, .inl (Md_written s0).2)), ((ad0 1), .inl (cA 0, (Md_other s0).1, .inl (Md_other s0).2))]) F 8 rfl e_a39 b_a39 rfl d_Md_join_92 ?_
          refine x_iinc (v := (x6 + 1)) (lv' := [(6, .int (x6 + 1)), (0, .ref (ob0 0)), (1, .ref (ob0 8)), (2, .int y2), (3, .int y3), (4, .int y4), (5, .int y5)]) F d_Md_join_93 6 rfl rfl (by decide) rfl ?_
          refine x_goto F 44 d_Md_join_96 (by decide) ?_
          refine x_sub [0, 1, 2, 3, 4, 5, 6, 7, 8, 9, 10, 11, 12, 13, 14, 15, 16, 17, 18, 19, 20] (by decide) ?_ (x_lv [1, 2, 3, 4, 5, 6, 0] ?_ (ih (x6 + 1) ((Md_kinds s0), (Md_values s0), (Md_firsts s0), (Md_manies s0), (Md_said s0), (Md_marked s0), (Md_leaders s0), a39, (Md_shown s0), (Md_end s0), (Md_nodes s0), (Md_features s0), (Md_parts s0), (Md_fields s0), (Md_pushedFeatures s0), (Md_pushedParts s0), (Md_pushed s0), (Md_touched s0), (Md_touches s0), (Md_reached s0), (Md_blocks s0), (Md_newBlocks s0), (Md_places s0), (Md_written s0), (Md_other s0), (Md_length s0)) ad0 _ _ out k37 hm (by omega) (by omega) (fun ad => x_cs (by omega) (by omega) (KX ad))))
          · rfl
          · rfl
        · replace hm := h38
          refine x_icmp_eq F 88 d_Md_join_71 (by decide) (fun c40 => ?_) (fun c40 => ?_)
          · replace hm := xm_t hm c40
            refine x_aload_n F d_Md_join_88 1 rfl rfl ?_
            refine x_iload F d_Md_join_89 6 rfl ?_
            replace hm := xm_rd_some hm
            obtain ⟨v41, e_v41, b_v41, hm⟩ := hm
            refine x_iald (x := (Md_trial s0)) F 8 rfl e_v41 b_v41 d_Md_join_91 ?_
            replace hm := xm_p_some hm
            obtain ⟨eo, c_o, d_o⟩ := hm
            subst eo
            exact x_cs (by omega) (by omega) J
          · replace hm := xm_f hm c40
            refine x_aload_n F d_Md_join_74 1 rfl rfl ?_
            refine x_iload F d_Md_join_75 6 rfl ?_
            replace hm := xm_rd_some hm
            obtain ⟨v42, e_v42, b_v42, hm⟩ := hm
            refine x_iald (x := (Md_trial s0)) F 8 rfl e_v42 b_v42 d_Md_join_77 ?_
            refine x_iload F d_Md_join_78 5 rfl ?_
            refine x_icmp_ne F 88 d_Md_join_80 (by decide) (fun c43 => ?_) (fun c43 => ?_)
            · replace hm := xm_f hm c43
              refine x_aload_n F d_Md_join_88 1 rfl rfl ?_
              refine x_iload F d_Md_join_89 6 rfl ?_
              replace hm := xm_rd_some hm
              obtain ⟨v44, e_v44, b_v44, hm⟩ := hm
              refine x_iald (x := (Md_trial s0)) F 8 rfl e_v44 b_v44 d_Md_join_91 ?_
              replace hm := xm_p_some hm
              obtain ⟨eo, c_o, d_o⟩ := hm
              subst eo
              exact x_cs (by omega) (by omega) J
            · replace hm := xm_t hm c43
              refine x_iload F d_Md_join_83 4 rfl ?_
              refine x_goto F 92 d_Md_join_85 (by decide) ?_
              replace hm := xm_p_some hm
              obtain ⟨eo, c_o, d_o⟩ := hm
              subst eo
              exact x_cs (by omega) (by omega) J
set_option maxHeartbeats 4000000 in
set_option maxRecDepth 100000 in
theorem c_Md_join (l : Launch) (D : va_G) (cA : Nat → ClassId) (n : Nat) (ob0 ad0 : Nat → Nat) (s0 : S_Md) (p1 : Int32) (p2 : Int32) (out : Int32 × S_Md) (k : KC) (hm : m_Md_join n s0 p1 p2 = some (out, k)) : XM l D cA y_Md_join b_Md_join 7 (some FieldType.boolean) 0 0 [.ref (ob0 0), .ref (ob0 8), .int p1, .int p2] ((w_Md cA ob0 ad0  s0)) k (fun _ => some (.int (out.1))) (fun ad => (w_Md cA ob0 ad  (out.2))) := by
  refine x_met (cc := b_Md_join) (nL := 7) (ret := (some FieldType.boolean)) R_Md (by decide) (Nat.le_of_ble_eq_true rfl) rfl (fun X F I E => ?_)
  unfold m_Md_join at hm
  refine x_nf2 (ws' := [((ob0 0), .inr (8, [.ref (ob0 1), .ref (ob0 2), .ref (ob0 3), .ref (ob0 4), .ref (ob0 5), .ref (ob0 6), .ref (ob0 7), .ref (ob0 8), .ref (ob0 9), .int (Md_end s0), .int (Md_nodes s0), .ref (ob0 10), .ref (ob0 11), .int (Md_fields s0), .ref (ob0 12), .ref (ob0 13), .int (Md_pushed s0), .ref (ob0 14), .int (Md_touches s0), .ref (ob0 15), .ref (ob0 16), .ref (ob0 17), .ref (ob0 18), .ref (ad0 0), .ref (ad0 1), .int (Md_length s0)])), ((ob0 1), .inl (cA 1, (Md_kinds s0).1, .inl (Md_kinds s0).2)), ((ob0 2), .inl (cA 0, (Md_values s0).1, .inl (Md_values s0).2)), ((ob0 3), .inl (cA 0, (Md_firsts s0).1, .inl (Md_firsts s0).2)), ((ob0 4), .inl (cA 0, (Md_manies s0).1, .inl (Md_manies s0).2)), ((ob0 5), .inl (cA 2, (Md_said s0).1, .inl (Md_said s0).2)), ((ob0 6), .inl (cA 2, (Md_marked s0).1, .inl (Md_marked s0).2)), ((ob0 7), .inl (cA 0, (Md_leaders s0).1, .inl (Md_leaders s0).2)), ((ob0 8), .inl (cA 0, (Md_trial s0).1, .inl (Md_trial s0).2)), ((ob0 9), .inl (cA 0, (Md_shown s0).1, .inl (Md_shown s0).2)), ((ob0 10), .inl (cA 0, (Md_features s0).1, .inl (Md_features s0).2)), ((ob0 11), .inl (cA 0, (Md_parts s0).1, .inl (Md_parts s0).2)), ((ob0 12), .inl (cA 0, (Md_pushedFeatures s0).1, .inl (Md_pushedFeatures s0).2)), ((ob0 13), .inl (cA 0, (Md_pushedParts s0).1, .inl (Md_pushedParts s0).2)), ((ob0 14), .inl (cA 0, (Md_touched s0).1, .inl (Md_touched s0).2)), ((ob0 15), .inl (cA 0, (Md_reached s0).1, .inl (Md_reached s0).2)), ((ob0 16), .inl (cA 0, (Md_blocks s0).1, .inl (Md_blocks s0).2)), ((ob0 17), .inl (cA 0, (Md_newBlocks s0).1, .inl (Md_newBlocks s0).2)), ((ob0 18), .inl (cA 0, (Md_places s0).1, .inl (Md_places s0).2)), ((ad0 0), .inl (cA 0, (Md_written s0).1, .inl (Md_written s0).2)), ((ad0 1), .inl (cA 0, (Md_other s0).1, .inl (Md_other s0).2))]) (lv' := [(0, .ref (ob0 0)), (1, .ref (ob0 8)), (2, .int p1), (3, .int p2)]) rfl rfl ?_
  refine x_aload_n F d_Md_join_0 1 rfl rfl ?_
  refine x_iload_n F d_Md_join_1 2 rfl rfl ?_
  replace hm := xm_rd_some hm
  obtain ⟨v20, e_v20, b_v20, hm⟩ := hm
  refine x_iald (x := (Md_trial s0)) F 8 rfl e_v20 b_v20 d_Md_join_2 ?_
  refine x_aload_n F d_Md_join_3 1 rfl rfl ?_
  refine x_iload_n F d_Md_join_4 3 rfl rfl ?_
  replace hm := xm_rd_some hm
  obtain ⟨v21, e_v21, b_v21, hm⟩ := hm
  refine x_iald (x := (Md_trial s0)) F 8 rfl e_v21 b_v21 d_Md_join_5 ?_
  replace hm := xm_b_some hm
  obtain ⟨j22, k23, k24, h25, hm, c_j22, d_j22⟩ := hm
  refine x_mrg (k1 := k23) (M := 18) (v := j22) (st := []) ?_ (fun J => ?_)
  · skip
    refine x_istore (lv' := [(4, .int j22), (0, .ref (ob0 0)), (1, .ref (ob0 8)), (2, .int p1), (3, .int p2)]) F d_Md_join_18 (by decide) rfl ?_
    refine x_aload_n F d_Md_join_20 2 rfl rfl ?_
    refine x_iload_n F d_Md_join_21 3 rfl rfl ?_
    replace hm := xm_rd_some hm
    obtain ⟨v26, e_v26, b_v26, hm⟩ := hm
    refine x_iald (x := (Md_trial s0)) F 8 rfl e_v26 b_v26 d_Md_join_22 ?_
    refine x_aload_n F d_Md_join_23 2 rfl rfl ?_
    refine x_iload_n F d_Md_join_24 4 rfl rfl ?_
    replace hm := xm_rd_some hm
    obtain ⟨v27, e_v27, b_v27, hm⟩ := hm
    refine x_iald (x := (Md_trial s0)) F 8 rfl e_v27 b_v27 d_Md_join_25 ?_
    replace hm := xm_b_some hm
    obtain ⟨j28, k29, k30, h31, hm, c_j28, d_j28⟩ := hm
    refine x_mrg (k1 := k29) (M := 38) (v := j28) (st := []) ?_ (fun J => ?_)
    · skip
      refine x_istore (lv' := [(5, .int j28), (4, .int j22), (0, .ref (ob0 0)), (1, .ref (ob0 8)), (2, .int p1), (3, .int p2)]) F d_Md_join_38 (by decide) rfl ?_
      refine x_iload F d_Md_join_40 0 rfl ?_
      refine x_istore (lv' := [(6, .int j28), (5, .int j28), (4, .int j22), (0, .ref (ob0 0)), (1, .ref (ob0 8)), (2, .int p1), (3, .int p2)]) F d_Md_join_42 (by decide) rfl ?_
      replace hm := xm_b_some hm
      obtain ⟨o45, k46, k47, h48, hm, c_o45, d_o45⟩ := hm
      refine x_sub [0, 1, 2, 3, 4, 5, 6, 7, 8, 9, 10, 11, 12, 13, 14, 15, 16, 17, 18, 19, 20] (by decide) ?_ (x_lv [3, 4, 5, 6, 2, 1, 0] ?_ (wl_Md_join_44 F n ob0 p1 p2 j22 j28  n j28 s0 ad0 _ _ o45 k46 h48 (by omega) (by omega) (fun ad49 => ?_)))
      · rfl
      · rfl
      refine x_nf2 (ws' := [((ob0 0), .inr (8, [.ref (ob0 1), .ref (ob0 2), .ref (ob0 3), .ref (ob0 4), .ref (ob0 5), .ref (ob0 6), .ref (ob0 7), .ref (ob0 8), .ref (ob0 9), .int (Md_end (o45.2)), .int (Md_nodes (o45.2)), .ref (ob0 10), .ref (ob0 11), .int (Md_fields (o45.2)), .ref (ob0 12), .ref (ob0 13), .int (Md_pushed (o45.2)), .ref (ob0 14), .int (Md_touches (o45.2)), .ref (ob0 15), .ref (ob0 16), .ref (ob0 17), .ref (ob0 18), .ref (ad49 0), .ref (ad49 1), .int (Md_length (o45.2))])), ((ob0 1), .inl (cA 1, (Md_kinds (o45.2)).1, .inl (Md_kinds (o45.2)).2)), ((ob0 2), .inl (cA 0, (Md_values (o45.2)).1, .inl (Md_values (o45.2)).2)), ((ob0 3), .inl (cA 0, (Md_firsts (o45.2)).1, .inl (Md_firsts (o45.2)).2)), ((ob0 4), .inl (cA 0, (Md_manies (o45.2)).1, .inl (Md_manies (o45.2)).2)), ((ob0 5), .inl (cA 2, (Md_said (o45.2)).1, .inl (Md_said (o45.2)).2)), ((ob0 6), .inl (cA 2, (Md_marked (o45.2)).1, .inl (Md_marked (o45.2)).2)), ((ob0 7), .inl (cA 0, (Md_leaders (o45.2)).1, .inl (Md_leaders (o45.2)).2)), ((ob0 8), .inl (cA 0, (Md_trial (o45.2)).1, .inl (Md_trial (o45.2)).2)), ((ob0 9), .inl (cA 0, (Md_shown (o45.2)).1, .inl (Md_shown (o45.2)).2)), ((ob0 10), .inl (cA 0, (Md_features (o45.2)).1, .inl (Md_features (o45.2)).2)), ((ob0 11), .inl (cA 0, (Md_parts (o45.2)).1, .inl (Md_parts (o45.2)).2)), ((ob0 12), .inl (cA 0, (Md_pushedFeatures (o45.2)).1, .inl (Md_pushedFeatures (o45.2)).2)), ((ob0 13), .inl (cA 0, (Md_pushedParts (o45.2)).1, .inl (Md_pushedParts (o45.2)).2)), ((ob0 14), .inl (cA 0, (Md_touched (o45.2)).1, .inl (Md_touched (o45.2)).2)), ((ob0 15), .inl (cA 0, (Md_reached (o45.2)).1, .inl (Md_reached (o45.2)).2)), ((ob0 16), .inl (cA 0, (Md_blocks (o45.2)).1, .inl (Md_blocks (o45.2)).2)), ((ob0 17), .inl (cA 0, (Md_newBlocks (o45.2)).1, .inl (Md_newBlocks (o45.2)).2)), ((ob0 18), .inl (cA 0, (Md_places (o45.2)).1, .inl (Md_places (o45.2)).2)), ((ad49 0), .inl (cA 0, (Md_written (o45.2)).1, .inl (Md_written (o45.2)).2)), ((ad49 1), .inl (cA 0, (Md_other (o45.2)).1, .inl (Md_other (o45.2)).2))]) (lv' := [(0, .ref (ob0 0)), (1, .ref (ob0 8)), (2, .int p1), (3, .int p2), (4, .int j22), (5, .int j28), (6, .int (o45.1))]) rfl rfl ?_
      refine x_iload F d_Md_join_99 4 rfl ?_
      refine x_iload F d_Md_join_101 5 rfl ?_
      refine x_icmp_eq F 110 d_Md_join_103 (by decide) (fun c50 => ?_) (fun c50 => ?_)
      · replace hm := xm_t hm c50
        refine x_iconst (v := (0 : Int32)) F d_Md_join_110 (by decide) ?_
        replace hm := xm_p_some hm
        obtain ⟨eo, c_o, d_o⟩ := hm
        subst eo
        refine x_sub [0, 1, 2, 3, 4, 5, 6, 7, 8, 9, 10, 11, 12, 13, 14, 15, 16, 17, 18, 19, 20] (by decide) ?_ (xe_i E ad49 (by omega) (by omega) rfl xz_0 d_Md_join_111)
        rfl
      · replace hm := xm_f hm c50
        refine x_iconst (v := (1 : Int32)) F d_Md_join_106 (by decide) ?_
        refine x_goto F 111 d_Md_join_107 (by decide) ?_
        replace hm := xm_p_some hm
        obtain ⟨eo, c_o, d_o⟩ := hm
        subst eo
        refine x_sub [0, 1, 2, 3, 4, 5, 6, 7, 8, 9, 10, 11, 12, 13, 14, 15, 16, 17, 18, 19, 20] (by decide) ?_ (xe_i E ad49 (by omega) (by omega) rfl xz_1 d_Md_join_111)
        rfl
    · replace hm := h31
      refine x_icmp_ge F 35 d_Md_join_26 (by decide) (fun c51 => ?_) (fun c51 => ?_)
      · replace hm := xm_t hm c51
        refine x_aload_n F d_Md_join_35 2 rfl rfl ?_
        refine x_iload_n F d_Md_join_36 3 rfl rfl ?_
        replace hm := xm_rd_some hm
        obtain ⟨v52, e_v52, b_v52, hm⟩ := hm
        refine x_iald (x := (Md_trial s0)) F 8 rfl e_v52 b_v52 d_Md_join_37 ?_
        replace hm := xm_p_some hm
        obtain ⟨eo, c_o, d_o⟩ := hm
        subst eo
        exact x_cs (by omega) (by omega) J
      · replace hm := xm_f hm c51
        refine x_aload_n F d_Md_join_29 2 rfl rfl ?_
        refine x_iload_n F d_Md_join_30 4 rfl rfl ?_
        replace hm := xm_rd_some hm
        obtain ⟨v53, e_v53, b_v53, hm⟩ := hm
        refine x_iald (x := (Md_trial s0)) F 8 rfl e_v53 b_v53 d_Md_join_31 ?_
        refine x_goto F 38 d_Md_join_32 (by decide) ?_
        replace hm := xm_p_some hm
        obtain ⟨eo, c_o, d_o⟩ := hm
        subst eo
        exact x_cs (by omega) (by omega) J
  · replace hm := h25
    refine x_icmp_ge F 15 d_Md_join_6 (by decide) (fun c54 => ?_) (fun c54 => ?_)
    · replace hm := xm_t hm c54
      refine x_aload_n F d_Md_join_15 1 rfl rfl ?_
      refine x_iload_n F d_Md_join_16 3 rfl rfl ?_
      replace hm := xm_rd_some hm
      obtain ⟨v55, e_v55, b_v55, hm⟩ := hm
      refine x_iald (x := (Md_trial s0)) F 8 rfl e_v55 b_v55 d_Md_join_17 ?_
      replace hm := xm_p_some hm
      obtain ⟨eo, c_o, d_o⟩ := hm
      subst eo
      exact x_cs (by omega) (by omega) J
    · replace hm := xm_f hm c54
      refine x_aload_n F d_Md_join_9 1 rfl rfl ?_
      refine x_iload_n F d_Md_join_10 2 rfl rfl ?_
      replace hm := xm_rd_some hm
      obtain ⟨v56, e_v56, b_v56, hm⟩ := hm
      refine x_iald (x := (Md_trial s0)) F 8 rfl e_v56 b_v56 d_Md_join_11 ?_
      refine x_goto F 18 d_Md_join_12 (by decide) ?_
      replace hm := xm_p_some hm
      obtain ⟨eo, c_o, d_o⟩ := hm
      subst eo
      exact x_cs (by omega) (by omega) J

noncomputable def L_Md_go_69 (y1 : Int32) (y2 : Int32) (s0 : S_Md) (n i : Nat) : Int32 → Int32 → MO (Int32 × Int32) := Nat.rec (motive := fun _ => Int32 → Int32 → MO (Int32 × Int32)) (fun _ _ => none) (fun _ ih x3 x4 => (xm_rd (Md_manies s0) y1 (fun v27 => (if v27 ≤ x4 then (xm_p ((x3, x4))) else (if x3 = 0 then (xm_p ((x3, x4))) else (xm_rd (Md_firsts s0) y1 (fun v30 => (xm_rd (Md_features s0) (v30 + x4) (fun v31 => (xm_rd (Md_firsts s0) y2 (fun v32 => (xm_rd (Md_features s0) (v32 + x4) (fun v33 => (xm_b (if v31 = v33 then (xm_p (1 : Int32)) else (xm_p (0 : Int32))) (fun j34 => (ih j34 (x4 + 1))))))))))))))))) i
theorem L_Md_go_69_s (y1 : Int32) (y2 : Int32) (s0 : S_Md) (n i : Nat) (x3 : Int32) (x4 : Int32) : L_Md_go_69 y1 y2 s0 n (i + 1) x3 x4 = (xm_rd (Md_manies s0) y1 (fun v27 => (if v27 ≤ x4 then (xm_p ((x3, x4))) else (if x3 = 0 then (xm_p ((x3, x4))) else (xm_rd (Md_firsts s0) y1 (fun v30 => (xm_rd (Md_features s0) (v30 + x4) (fun v31 => (xm_rd (Md_firsts s0) y2 (fun v32 => (xm_rd (Md_features s0) (v32 + x4) (fun v33 => (xm_b (if v31 = v33 then (xm_p (1 : Int32)) else (xm_p (0 : Int32))) (fun j34 => (L_Md_go_69 y1 y2 s0 n i j34 (x4 + 1)))))))))))))))) := rfl
noncomputable def m_Md_go (n : Nat) (s0 : S_Md) (p0 : Int32) (p1 : Int32) : MO (Int32) := (xm_rd (Md_kinds s0) p0 (fun v21 => (xm_rd (Md_kinds s0) p1 (fun v22 => (xm_b (if v21 = v22 then (xm_rd (Md_values s0) p0 (fun v45 => (xm_rd (Md_values s0) p1 (fun v46 => (if v45 = v46 then (xm_rd (Md_manies s0) p0 (fun v48 => (xm_rd (Md_manies s0) p1 (fun v49 => (if v48 = v49 then (xm_rd (Md_kinds s0) p0 (fun v51 => (if v51 = (4 : Int32) then (if p0 = p1 then (xm_p (1 : Int32)) else (xm_p (0 : Int32))) else (xm_p (1 : Int32))))) else (xm_p (0 : Int32))))))) else (xm_p (0 : Int32))))))) else (xm_p (0 : Int32))) (fun j23 => (xm_b (L_Md_go_69 p0 p1 s0 n n j23 (0 : Int32)) (fun o39 => (xm_z (o39.1) (xm_p (o39.1)))))))))))
set_option maxHeartbeats 4000000 in
set_option maxRecDepth 100000 in
theorem wl_Md_go_69 {X : XT} {l : Launch} {D : va_G} {cA : Nat → ClassId} {mc ms : Nat} (F : XF X l D cA b_Md_go 5 (some FieldType.boolean) R_Md 0 0 mc ms) (n : Nat) (ob0 : Nat → Nat) (y1 : Int32) (y2 : Int32) (s0 : S_Md)  (ad0 : Nat → Nat) : ∀ (i : Nat) (x3 : Int32) (x4 : Int32)  (nc ns : Nat) (out : Int32 × Int32) (k : KC), L_Md_go_69 y1 y2 s0 n i x3 x4 = some (out, k) → nc + k.1 ≤ mc → ns + k.2 ≤ ms → (∀ ad : Nat → Nat, XW X 5 ((w_Md cA ob0 ad0  s0)) (nc + k.1) (ns + k.2) 127 [(0, .ref (ob0 0)), (1, .int y1), (2, .int y2), (3, .int (out.1)), (4, .int (out.2))] []) → XW X 5 ((w_Md cA ob0 ad0  s0)) nc ns 69 [(0, .ref (ob0 0)), (1, .int y1), (2, .int y2), (3, .int x3), (4, .int x4)] [] := by
  intro i
  induction i with
  | zero =>
    intro x3 x4  nc ns out k hm
    replace hm : (none : MO (Int32 × Int32)) = some (out, k) := hm
    cases hm
  | succ i ih =>
    intro x3 x4  nc ns out k hm hc hs KX
    rw [L_Md_go_69_s] at hm
    refine x_ws (ws' := [((ob0 0), .inr (8, [.ref (ob0 1), .ref (ob0 2), .ref (ob0 3), .ref (ob0 4), .ref (ob0 5), .ref (ob0 6), .ref (ob0 7), .ref (ob0 8), .ref (ob0 9), .int (Md_end s0), .int (Md_nodes s0), .ref (ob0 10), .ref (ob0 11), .int (Md_fields s0), .ref (ob0 12), .ref (ob0 13), .int (Md_pushed s0), .ref (ob0 14), .int (Md_touches s0), .ref (ob0 15), .ref (ob0 16), .ref (ob0 17), .ref (ob0 18), .ref (ad0 0), .ref (ad0 1), .int (Md_length s0)])), ((ob0 1), .inl (cA 1, (Md_kinds s0).1, .inl (Md_kinds s0).2)), ((ob0 2), .inl (cA 0, (Md_values s0).1, .inl (Md_values s0).2)), ((ob0 3), .inl (cA 0, (Md_firsts s0).1, .inl (Md_firsts s0).2)), ((ob0 4), .inl (cA 0, (Md_manies s0).1, .inl (Md_manies s0).2)), ((ob0 5), .inl (cA 2, (Md_said s0).1, .inl (Md_said s0).2)), ((ob0 6), .inl (cA 2, (Md_marked s0).1, .inl (Md_marked s0).2)), ((ob0 7), .inl (cA 0, (Md_leaders s0).1, .inl (Md_leaders s0).2)), ((ob0 8), .inl (cA 0, (Md_trial s0).1, .inl (Md_trial s0).2)), ((ob0 9), .inl (cA 0, (Md_shown s0).1, .inl (Md_shown s0).2)), ((ob0 10), .inl (cA 0, (Md_features s0).1, .inl (Md_features s0).2)), ((ob0 11), .inl (cA 0, (Md_parts s0).1, .inl (Md_parts s0).2)), ((ob0 12), .inl (cA 0, (Md_pushedFeatures s0).1, .inl (Md_pushedFeatures s0).2)), ((ob0 13), .inl (cA 0, (Md_pushedParts s0).1, .inl (Md_pushedParts s0).2)), ((ob0 14), .inl (cA 0, (Md_touched s0).1, .inl (Md_touched s0).2)), ((ob0 15), .inl (cA 0, (Md_reached s0).1, .inl (Md_reached s0).2)), ((ob0 16), .inl (cA 0, (Md_blocks s0).1, .inl (Md_blocks s0).2)), ((ob0 17), .inl (cA 0, (Md_newBlocks s0).1, .inl (Md_newBlocks s0).2)), ((ob0 18), .inl (cA 0, (Md_places s0).1, .inl (Md_places s0).2)), ((ad0 0), .inl (cA 0, (Md_written s0).1, .inl (Md_written s0).2)), ((ad0 1), .inl (cA 0, (Md_other s0).1, .inl (Md_other s0).2))]) rfl ?_
    refine x_iload F d_Md_go_69 4 rfl ?_
    refine x_aload_n F d_Md_go_71 0 rfl rfl ?_
    refine x_get F ck_Md hin_Md 0 3 rfl (by decide) kw_637 rfl rfl d_Md_go_72 ?_
    refine x_iload_n F d_Md_go_75 1 rfl rfl ?_
    replace hm := xm_rd_some hm
    obtain ⟨v27, e_v27, b_v27, hm⟩ := hm
    refine x_iald (x := (Md_manies s0)) F 4 rfl e_v27 b_v27 d_Md_go_76 ?_
    refine x_icmp_ge F 127 d_Md_go_77 (by decide) (fun c28 => ?_) (fun c28 => ?_)
    · replace hm := xm_t hm c28
      replace hm := xm_p_some hm
      obtain ⟨eo, c_o, d_o⟩ := hm
      subst eo
      refine x_sub [0, 1, 2, 3, 4, 5, 6, 7, 8, 9, 10, 11, 12, 13, 14, 15, 16, 17, 18, 19, 20] (by decide) ?_ (x_lv [0, 1, 2, 3, 4] ?_ (x_cs (by omega) (by omega) (KX (fun _ => 0))))
      · rfl
      · rfl
    · replace hm := xm_f hm c28
      refine x_iload_n F d_Md_go_80 3 rfl rfl ?_
      refine x_if_eq F 127 d_Md_go_81 (by decide) (fun c29 => ?_) (fun c29 => ?_)
      · replace hm := xm_t hm c29
        replace hm := xm_p_some hm
        obtain ⟨eo, c_o, d_o⟩ := hm
        subst eo
        refine x_sub [0, 1, 2, 3, 4, 5, 6, 7, 8, 9, 10, 11, 12, 13, 14, 15, 16, 17, 18, 19, 20] (by decide) ?_ (x_lv [0, 1, 2, 3, 4] ?_ (x_cs (by omega) (by omega) (KX (fun _ => 0))))
        · rfl
        · rfl
      · replace hm := xm_f hm c29
        refine x_aload_n F d_Md_go_84 0 rfl rfl ?_
        refine x_get F ck_Md hin_Md 0 11 rfl (by decide) kw_645 rfl rfl d_Md_go_85 ?_
        refine x_aload_n F d_Md_go_88 0 rfl rfl ?_
        refine x_get F ck_Md hin_Md 0 2 rfl (by decide) kw_636 rfl rfl d_Md_go_89 ?_
        refine x_iload_n F d_Md_go_92 1 rfl rfl ?_
        replace hm := xm_rd_some hm
        obtain ⟨v30, e_v30, b_v30, hm⟩ := hm
        refine x_iald (x := (Md_firsts s0)) F 3 rfl e_v30 b_v30 d_Md_go_93 ?_
        refine x_iload F d_Md_go_94 4 rfl ?_
        refine x_iadd F d_Md_go_96 ?_
        replace hm := xm_rd_some hm
        obtain ⟨v31, e_v31, b_v31, hm⟩ := hm
        refine x_iald (x := (Md_features s0)) F 10 rfl e_v31 b_v31 d_Md_go_97 ?_
        refine x_aload_n F d_Md_go_98 0 rfl rfl ?_
        refine x_get F ck_Md hin_Md 0 11 rfl (by decide) kw_645 rfl rfl d_Md_go_99 ?_
        refine x_aload_n F d_Md_go_102 0 rfl rfl ?_
        refine x_get F ck_Md hin_Md 0 2 rfl (by decide) kw_636 rfl rfl d_Md_go_103 ?_
        refine x_iload_n F d_Md_go_106 2 rfl rfl ?_
        replace hm := xm_rd_some hm
        obtain ⟨v32, e_v32, b_v32, hm⟩ := hm
        refine x_iald (x := (Md_firsts s0)) F 3 rfl e_v32 b_v32 d_Md_go_107 ?_
        refine x_iload F d_Md_go_108 4 rfl ?_
        refine x_iadd F d_Md_go_110 ?_
        replace hm := xm_rd_some hm
        obtain ⟨v33, e_v33, b_v33, hm⟩ := hm
        refine x_iald (x := (Md_features s0)) F 10 rfl e_v33 b_v33 d_Md_go_111 ?_
        replace hm := xm_b_some hm
        obtain ⟨j34, k35, k36, h37, hm, c_j34, d_j34⟩ := hm
        refine x_mrg (k1 := k35) (M := 120) (v := j34) (st := []) ?_ (fun J => ?_)
        · skip
          refine x_istore_n (lv' := [(3, .int j34), (0, .ref (ob0 0)), (1, .int y1), (2, .int y2), (4, .int x4)]) F d_Md_go_120 rfl (by decide) rfl ?_
          refine x_iinc (v := (x4 + 1)) (lv' := [(4, .int (x4 + 1)), (3, .int j34), (0, .ref (ob0 0)), (1, .int y1), (2, .int y2)]) F d_Md_go_121 4 rfl rfl (by decide) rfl ?_
          refine x_goto F 69 d_Md_go_124 (by decide) ?_
          refine x_sub [0, 1, 2, 3, 4, 5, 6, 7, 8, 9, 10, 11, 12, 13, 14, 15, 16, 17, 18, 19, 20] (by decide) ?_ (x_lv [2, 3, 4, 1, 0] ?_ (ih j34 (x4 + 1)  _ _ out k36 hm (by omega) (by omega) (fun ad => x_cs (by omega) (by omega) (KX ad))))
          · rfl
          · rfl
        · replace hm := h37
          refine x_icmp_ne F 119 d_Md_go_112 (by decide) (fun c38 => ?_) (fun c38 => ?_)
          · replace hm := xm_f hm c38
            refine x_iconst (v := (0 : Int32)) F d_Md_go_119 (by decide) ?_
            replace hm := xm_p_some hm
            obtain ⟨eo, c_o, d_o⟩ := hm
            subst eo
            exact x_cs (by omega) (by omega) J
          · replace hm := xm_t hm c38
            refine x_iconst (v := (1 : Int32)) F d_Md_go_115 (by decide) ?_
            refine x_goto F 120 d_Md_go_116 (by decide) ?_
            replace hm := xm_p_some hm
            obtain ⟨eo, c_o, d_o⟩ := hm
            subst eo
            exact x_cs (by omega) (by omega) J
set_option maxHeartbeats 4000000 in
set_option maxRecDepth 100000 in
theorem c_Md_go (l : Launch) (D : va_G) (cA : Nat → ClassId) (n : Nat) (ob0 ad0 : Nat → Nat) (s0 : S_Md) (p0 : Int32) (p1 : Int32) (out : Int32) (k : KC) (hm : m_Md_go n s0 p0 p1 = some (out, k)) : XM l D cA y_Md_go b_Md_go 5 (some FieldType.boolean) 0 0 [.ref (ob0 0), .int p0, .int p1] ((w_Md cA ob0 ad0  s0)) k (fun _ => some (.int out)) (fun ad => (w_Md cA ob0 ad0  s0)) := by
  refine x_met (cc := b_Md_go) (nL := 5) (ret := (some FieldType.boolean)) R_Md (by decide) (Nat.le_of_ble_eq_true rfl) rfl (fun X F I E => ?_)
  unfold m_Md_go at hm
  refine x_nf2 (ws' := [((ob0 0), .inr (8, [.ref (ob0 1), .ref (ob0 2), .ref (ob0 3), .ref (ob0 4), .ref (ob0 5), .ref (ob0 6), .ref (ob0 7), .ref (ob0 8), .ref (ob0 9), .int (Md_end s0), .int (Md_nodes s0), .ref (ob0 10), .ref (ob0 11), .int (Md_fields s0), .ref (ob0 12), .ref (ob0 13), .int (Md_pushed s0), .ref (ob0 14), .int (Md_touches s0), .ref (ob0 15), .ref (ob0 16), .ref (ob0 17), .ref (ob0 18), .ref (ad0 0), .ref (ad0 1), .int (Md_length s0)])), ((ob0 1), .inl (cA 1, (Md_kinds s0).1, .inl (Md_kinds s0).2)), ((ob0 2), .inl (cA 0, (Md_values s0).1, .inl (Md_values s0).2)), ((ob0 3), .inl (cA 0, (Md_firsts s0).1, .inl (Md_firsts s0).2)), ((ob0 4), .inl (cA 0, (Md_manies s0).1, .inl (Md_manies s0).2)), ((ob0 5), .inl (cA 2, (Md_said s0).1, .inl (Md_said s0).2)), ((ob0 6), .inl (cA 2, (Md_marked s0).1, .inl (Md_marked s0).2)), ((ob0 7), .inl (cA 0, (Md_leaders s0).1, .inl (Md_leaders s0).2)), ((ob0 8), .inl (cA 0, (Md_trial s0).1, .inl (Md_trial s0).2)), ((ob0 9), .inl (cA 0, (Md_shown s0).1, .inl (Md_shown s0).2)), ((ob0 10), .inl (cA 0, (Md_features s0).1, .inl (Md_features s0).2)), ((ob0 11), .inl (cA 0, (Md_parts s0).1, .inl (Md_parts s0).2)), ((ob0 12), .inl (cA 0, (Md_pushedFeatures s0).1, .inl (Md_pushedFeatures s0).2)), ((ob0 13), .inl (cA 0, (Md_pushedParts s0).1, .inl (Md_pushedParts s0).2)), ((ob0 14), .inl (cA 0, (Md_touched s0).1, .inl (Md_touched s0).2)), ((ob0 15), .inl (cA 0, (Md_reached s0).1, .inl (Md_reached s0).2)), ((ob0 16), .inl (cA 0, (Md_blocks s0).1, .inl (Md_blocks s0).2)), ((ob0 17), .inl (cA 0, (Md_newBlocks s0).1, .inl (Md_newBlocks s0).2)), ((ob0 18), .inl (cA 0, (Md_places s0).1, .inl (Md_places s0).2)), ((ad0 0), .inl (cA 0, (Md_written s0).1, .inl (Md_written s0).2)), ((ad0 1), .inl (cA 0, (Md_other s0).1, .inl (Md_other s0).2))]) (lv' := [(0, .ref (ob0 0)), (1, .int p0), (2, .int p1)]) rfl rfl ?_
  refine x_aload_n F d_Md_go_0 0 rfl rfl ?_
  refine x_get F ck_Md hin_Md 0 0 rfl (by decide) kw_634 rfl rfl d_Md_go_1 ?_
  refine x_iload_n F d_Md_go_4 1 rfl rfl ?_
  replace hm := xm_rd_some hm
  obtain ⟨v21, e_v21, b_v21, hm⟩ := hm
  refine x_bald (x := (Md_kinds s0)) F 1 rfl e_v21 b_v21 d_Md_go_5 ?_
  refine x_aload_n F d_Md_go_6 0 rfl rfl ?_
  refine x_get F ck_Md hin_Md 0 0 rfl (by decide) kw_634 rfl rfl d_Md_go_7 ?_
  refine x_iload_n F d_Md_go_10 2 rfl rfl ?_
  replace hm := xm_rd_some hm
  obtain ⟨v22, e_v22, b_v22, hm⟩ := hm
  refine x_bald (x := (Md_kinds s0)) F 1 rfl e_v22 b_v22 d_Md_go_11 ?_
  replace hm := xm_b_some hm
  obtain ⟨j23, k24, k25, h26, hm, c_j23, d_j23⟩ := hm
  refine x_mrg (k1 := k24) (M := 65) (v := j23) (st := []) ?_ (fun J => ?_)
  · skip
    refine x_istore_n (lv' := [(3, .int j23), (0, .ref (ob0 0)), (1, .int p0), (2, .int p1)]) F d_Md_go_65 rfl (by decide) rfl ?_
    refine x_iconst (v := (0 : Int32)) F d_Md_go_66 (by decide) ?_
    refine x_istore (lv' := [(4, .int (0 : Int32)), (3, .int j23), (0, .ref (ob0 0)), (1, .int p0), (2, .int p1)]) F d_Md_go_67 (by decide) rfl ?_
    replace hm := xm_b_some hm
    obtain ⟨o39, k40, k41, h42, hm, c_o39, d_o39⟩ := hm
    refine x_sub [0, 1, 2, 3, 4, 5, 6, 7, 8, 9, 10, 11, 12, 13, 14, 15, 16, 17, 18, 19, 20] (by decide) ?_ (x_lv [2, 3, 4, 1, 0] ?_ (wl_Md_go_69 F n ob0 p0 p1 s0 ad0 n j23 (0 : Int32)  _ _ o39 k40 h42 (by omega) (by omega) (fun ad43 => ?_)))
    · rfl
    · rfl
    refine x_nf2 (ws' := [((ob0 0), .inr (8, [.ref (ob0 1), .ref (ob0 2), .ref (ob0 3), .ref (ob0 4), .ref (ob0 5), .ref (ob0 6), .ref (ob0 7), .ref (ob0 8), .ref (ob0 9), .int (Md_end s0), .int (Md_nodes s0), .ref (ob0 10), .ref (ob0 11), .int (Md_fields s0), .ref (ob0 12), .ref (ob0 13), .int (Md_pushed s0), .ref (ob0 14), .int (Md_touches s0), .ref (ob0 15), .ref (ob0 16), .ref (ob0 17), .ref (ob0 18), .ref (ad0 0), .ref (ad0 1), .int (Md_length s0)])), ((ob0 1), .inl (cA 1, (Md_kinds s0).1, .inl (Md_kinds s0).2)), ((ob0 2), .inl (cA 0, (Md_values s0).1, .inl (Md_values s0).2)), ((ob0 3), .inl (cA 0, (Md_firsts s0).1, .inl (Md_firsts s0).2)), ((ob0 4), .inl (cA 0, (Md_manies s0).1, .inl (Md_manies s0).2)), ((ob0 5), .inl (cA 2, (Md_said s0).1, .inl (Md_said s0).2)), ((ob0 6), .inl (cA 2, (Md_marked s0).1, .inl (Md_marked s0).2)), ((ob0 7), .inl (cA 0, (Md_leaders s0).1, .inl (Md_leaders s0).2)), ((ob0 8), .inl (cA 0, (Md_trial s0).1, .inl (Md_trial s0).2)), ((ob0 9), .inl (cA 0, (Md_shown s0).1, .inl (Md_shown s0).2)), ((ob0 10), .inl (cA 0, (Md_features s0).1, .inl (Md_features s0).2)), ((ob0 11), .inl (cA 0, (Md_parts s0).1, .inl (Md_parts s0).2)), ((ob0 12), .inl (cA 0, (Md_pushedFeatures s0).1, .inl (Md_pushedFeatures s0).2)), ((ob0 13), .inl (cA 0, (Md_pushedParts s0).1, .inl (Md_pushedParts s0).2)), ((ob0 14), .inl (cA 0, (Md_touched s0).1, .inl (Md_touched s0).2)), ((ob0 15), .inl (cA 0, (Md_reached s0).1, .inl (Md_reached s0).2)), ((ob0 16), .inl (cA 0, (Md_blocks s0).1, .inl (Md_blocks s0).2)), ((ob0 17), .inl (cA 0, (Md_newBlocks s0).1, .inl (Md_newBlocks s0).2)), ((ob0 18), .inl (cA 0, (Md_places s0).1, .inl (Md_places s0).2)), ((ad0 0), .inl (cA 0, (Md_written s0).1, .inl (Md_written s0).2)), ((ad0 1), .inl (cA 0, (Md_other s0).1, .inl (Md_other s0).2))]) (lv' := [(0, .ref (ob0 0)), (1, .int p0), (2, .int p1), (3, .int (o39.1)), (4, .int (o39.2))]) rfl rfl ?_
    refine x_iload_n F d_Md_go_127 3 rfl rfl ?_
    replace hm := xm_z_some hm
    obtain ⟨hz, hm⟩ := hm
    replace hm := xm_p_some hm
    obtain ⟨eo, c_o, d_o⟩ := hm
    subst eo
    refine x_sub [0, 1, 2, 3, 4, 5, 6, 7, 8, 9, 10, 11, 12, 13, 14, 15, 16, 17, 18, 19, 20] (by decide) ?_ (xe_i E (fun _ => 0) (by omega) (by omega) rfl hz d_Md_go_128)
    rfl
  · replace hm := h26
    refine x_icmp_ne F 64 d_Md_go_12 (by decide) (fun c44 => ?_) (fun c44 => ?_)
    · replace hm := xm_f hm c44
      refine x_iconst (v := (0 : Int32)) F d_Md_go_64 (by decide) ?_
      replace hm := xm_p_some hm
      obtain ⟨eo, c_o, d_o⟩ := hm
      subst eo
      exact x_cs (by omega) (by omega) J
    · replace hm := xm_t hm c44
      refine x_aload_n F d_Md_go_15 0 rfl rfl ?_
      refine x_get F ck_Md hin_Md 0 1 rfl (by decide) kw_635 rfl rfl d_Md_go_16 ?_
      refine x_iload_n F d_Md_go_19 1 rfl rfl ?_
      replace hm := xm_rd_some hm
      obtain ⟨v45, e_v45, b_v45, hm⟩ := hm
      refine x_iald (x := (Md_values s0)) F 2 rfl e_v45 b_v45 d_Md_go_20 ?_
      refine x_aload_n F d_Md_go_21 0 rfl rfl ?_
      refine x_get F ck_Md hin_Md 0 1 rfl (by decide) kw_635 rfl rfl d_Md_go_22 ?_
      refine x_iload_n F d_Md_go_25 2 rfl rfl ?_
      replace hm := xm_rd_some hm
      obtain ⟨v46, e_v46, b_v46, hm⟩ := hm
      refine x_iald (x := (Md_values s0)) F 2 rfl e_v46 b_v46 d_Md_go_26 ?_
      refine x_icmp_ne F 64 d_Md_go_27 (by decide) (fun c47 => ?_) (fun c47 => ?_)
      · replace hm := xm_f hm c47
        refine x_iconst (v := (0 : Int32)) F d_Md_go_64 (by decide) ?_
        replace hm := xm_p_some hm
        obtain ⟨eo, c_o, d_o⟩ := hm
        subst eo
        exact x_cs (by omega) (by omega) J
      · replace hm := xm_t hm c47
        refine x_aload_n F d_Md_go_30 0 rfl rfl ?_
        refine x_get F ck_Md hin_Md 0 3 rfl (by decide) kw_637 rfl rfl d_Md_go_31 ?_
        refine x_iload_n F d_Md_go_34 1 rfl rfl ?_
        replace hm := xm_rd_some hm
        obtain ⟨v48, e_v48, b_v48, hm⟩ := hm
        refine x_iald (x := (Md_manies s0)) F 4 rfl e_v48 b_v48 d_Md_go_35 ?_
        refine x_aload_n F d_Md_go_36 0 rfl rfl ?_
        refine x_get F ck_Md hin_Md 0 3 rfl (by decide) kw_637 rfl rfl d_Md_go_37 ?_
        refine x_iload_n F d_Md_go_40 2 rfl rfl ?_
        replace hm := xm_rd_some hm
        obtain ⟨v49, e_v49, b_v49, hm⟩ := hm
        refine x_iald (x := (Md_manies s0)) F 4 rfl e_v49 b_v49 d_Md_go_41 ?_
        refine x_icmp_ne F 64 d_Md_go_42 (by decide) (fun c50 => ?_) (fun c50 => ?_)
        · replace hm := xm_f hm c50
          refine x_iconst (v := (0 : Int32)) F d_Md_go_64 (by decide) ?_
          replace hm := xm_p_some hm
          obtain ⟨eo, c_o, d_o⟩ := hm
          subst eo
          exact x_cs (by omega) (by omega) J
        · replace hm := xm_t hm c50
          refine x_aload_n F d_Md_go_45 0 rfl rfl ?_
          refine x_get F ck_Md hin_Md 0 0 rfl (by decide) kw_634 rfl rfl d_Md_go_46 ?_
          refine x_iload_n F d_Md_go_49 1 rfl rfl ?_
          replace hm := xm_rd_some hm
          obtain ⟨v51, e_v51, b_v51, hm⟩ := hm
          refine x_bald (x := (Md_kinds s0)) F 1 rfl e_v51 b_v51 d_Md_go_50 ?_
          refine x_iconst (v := (4 : Int32)) F d_Md_go_51 (by decide) ?_
          refine x_icmp_ne F 60 d_Md_go_52 (by decide) (fun c52 => ?_) (fun c52 => ?_)
          · replace hm := xm_f hm c52
            refine x_iconst (v := (1 : Int32)) F d_Md_go_60 (by decide) ?_
            refine x_goto F 65 d_Md_go_61 (by decide) ?_
            replace hm := xm_p_some hm
            obtain ⟨eo, c_o, d_o⟩ := hm
            subst eo
            exact x_cs (by omega) (by omega) J
          · replace hm := xm_t hm c52
            refine x_iload_n F d_Md_go_55 1 rfl rfl ?_
            refine x_iload_n F d_Md_go_56 2 rfl rfl ?_
            refine x_icmp_ne F 64 d_Md_go_57 (by decide) (fun c53 => ?_) (fun c53 => ?_)
            · replace hm := xm_f hm c53
              refine x_iconst (v := (0 : Int32)) F d_Md_go_64 (by decide) ?_
              replace hm := xm_p_some hm
              obtain ⟨eo, c_o, d_o⟩ := hm
              subst eo
              exact x_cs (by omega) (by omega) J
            · replace hm := xm_t hm c53
              refine x_iconst (v := (1 : Int32)) F d_Md_go_60 (by decide) ?_
              refine x_goto F 65 d_Md_go_61 (by decide) ?_
              replace hm := xm_p_some hm
              obtain ⟨eo, c_o, d_o⟩ := hm
              subst eo
              exact x_cs (by omega) (by omega) J

noncomputable def L_Md_follow_10 (y2 : Int32) (n i : Nat) : Int32 → S_Md → MO (Int32 × S_Md) := Nat.rec (motive := fun _ => Int32 → S_Md → MO (Int32 × S_Md)) (fun _ _ => none) (fun _ ih x3 s0 => (if (Md_end s0) ≤ x3 then (xm_p ((x3, s0))) else (xm_wr (Md_shown s0) x3 (-1 : Int32) (fun a36 => (ih (x3 + 1) ((Md_kinds s0), (Md_values s0), (Md_firsts s0), (Md_manies s0), (Md_said s0), (Md_marked s0), (Md_leaders s0), (Md_trial s0), a36, (Md_end s0), (Md_nodes s0), (Md_features s0), (Md_parts s0), (Md_fields s0), (Md_pushedFeatures s0), (Md_pushedParts s0), (Md_pushed s0), (Md_touched s0), (Md_touches s0), (Md_reached s0), (Md_blocks s0), (Md_newBlocks s0), (Md_places s0), (Md_written s0), (Md_other s0), (Md_length s0))))))) i
theorem L_Md_follow_10_s (y2 : Int32) (n i : Nat) (x3 : Int32) (s0 : S_Md) : L_Md_follow_10 y2 n (i + 1) x3 s0 = (if (Md_end s0) ≤ x3 then (xm_p ((x3, s0))) else (xm_wr (Md_shown s0) x3 (-1 : Int32) (fun a36 => (L_Md_follow_10 y2 n i (x3 + 1) ((Md_kinds s0), (Md_values s0), (Md_firsts s0), (Md_manies s0), (Md_said s0), (Md_marked s0), (Md_leaders s0), (Md_trial s0), a36, (Md_end s0), (Md_nodes s0), (Md_features s0), (Md_parts s0), (Md_fields s0), (Md_pushedFeatures s0), (Md_pushedParts s0), (Md_pushed s0), (Md_touched s0), (Md_touches s0), (Md_reached s0), (Md_blocks s0), (Md_newBlocks s0), (Md_places s0), (Md_written s0), (Md_other s0), (Md_length s0)))))) := rfl
noncomputable def L_Md_follow_113 (y3 : Int32) (y4 : Int32) (n i : Nat) : Int32 → Int32 → S_Md → MO (Int32 × Int32 × S_Md) := Nat.rec (motive := fun _ => Int32 → Int32 → S_Md → MO (Int32 × Int32 × S_Md)) (fun _ _ _ => none) (fun _ ih x2 x5 s0 => (xm_rd (Md_manies s0) y3 (fun v59 => (if v59 ≤ x5 then (xm_p ((x2, x5, s0))) else (xm_rd (Md_firsts s0) y3 (fun v61 => (xm_rd (Md_parts s0) (v61 + x5) (fun v62 => (xm_rd (Md_firsts s0) y4 (fun v63 => (xm_rd (Md_parts s0) (v63 + x5) (fun v64 => (xm_b (m_Md_join n s0 v62 v64) (fun o65 => (ih (x2 ||| (o65.1)) (x5 + 1) (o65.2)))))))))))))))) i
theorem L_Md_follow_113_s (y3 : Int32) (y4 : Int32) (n i : Nat) (x2 : Int32) (x5 : Int32) (s0 : S_Md) : L_Md_follow_113 y3 y4 n (i + 1) x2 x5 s0 = (xm_rd (Md_manies s0) y3 (fun v59 => (if v59 ≤ x5 then (xm_p ((x2, x5, s0))) else (xm_rd (Md_firsts s0) y3 (fun v61 => (xm_rd (Md_parts s0) (v61 + x5) (fun v62 => (xm_rd (Md_firsts s0) y4 (fun v63 => (xm_rd (Md_parts s0) (v63 + x5) (fun v64 => (xm_b (m_Md_join n s0 v62 v64) (fun o65 => (L_Md_follow_113 y3 y4 n i (x2 ||| (o65.1)) (x5 + 1) (o65.2))))))))))))))) := rfl
noncomputable def L_Md_follow_33  (n i : Nat) : Int32 → Int32 → S_Md → MO ((Int32 × Int32 × S_Md) ⊕ (Int32 × S_Md)) := Nat.rec (motive := fun _ => Int32 → Int32 → S_Md → MO ((Int32 × Int32 × S_Md) ⊕ (Int32 × S_Md))) (fun _ _ _ => none) (fun _ ih x2 x3 s0 => (if (Md_end s0) ≤ x3 then (xm_p (Sum.inl (x2, x3, s0))) else (xm_rd (Md_kinds s0) x3 (fun v43 => (if v43 = (-1 : Int32) then (ih x2 (x3 + 1) s0) else (xm_rd (Md_kinds s0) x3 (fun v45 => (if v45 = 0 then (ih x2 (x3 + 1) s0) else (xm_rd (Md_trial s0) x3 (fun v47 => (xm_rd (Md_shown s0) v47 (fun v48 => (if v48 = (-1 : Int32) then (xm_rd (Md_trial s0) x3 (fun v76 => (xm_wr (Md_shown s0) v76 x3 (fun a77 => (if x2 = 0 then (ih x2 (x3 + 1) ((Md_kinds s0), (Md_values s0), (Md_firsts s0), (Md_manies s0), (Md_said s0), (Md_marked s0), (Md_leaders s0), (Md_trial s0), a77, (Md_end s0), (Md_nodes s0), (Md_features s0), (Md_parts s0), (Md_fields s0), (Md_pushedFeatures s0), (Md_pushedParts s0), (Md_pushed s0), (Md_touched s0), (Md_touches s0), (Md_reached s0), (Md_blocks s0), (Md_newBlocks s0), (Md_places s0), (Md_written s0), (Md_other s0), (Md_length s0))) else (xm_p (Sum.inl (x2, x3, ((Md_kinds s0), (Md_values s0), (Md_firsts s0), (Md_manies s0), (Md_said s0), (Md_marked s0), (Md_leaders s0), (Md_trial s0), a77, (Md_end s0), (Md_nodes s0), (Md_features s0), (Md_parts s0), (Md_fields s0), (Md_pushedFeatures s0), (Md_pushedParts s0), (Md_pushed s0), (Md_touched s0), (Md_touches s0), (Md_reached s0), (Md_blocks s0), (Md_newBlocks s0), (Md_places s0), (Md_written s0), (Md_other s0), (Md_length s0)))))))))) else (xm_b (m_Md_go n s0 v48 x3) (fun o50 => (if o50 = 0 then (xm_p (Sum.inr ((0 : Int32), s0))) else (xm_rd (Md_kinds s0) x3 (fun v56 => (if v56 = (3 : Int32) then (xm_b (L_Md_follow_113 x3 v48 n n x2 (0 : Int32) s0) (fun o70 => (if (o70.1) = 0 then (ih (o70.1) (x3 + 1) (o70.2.2)) else (xm_p (Sum.inl ((o70.1), x3, (o70.2.2))))))) else (if x2 = 0 then (ih x2 (x3 + 1) s0) else (xm_p (Sum.inl (x2, x3, s0))))))))))))))))))))))) i
theorem L_Md_follow_33_s  (n i : Nat) (x2 : Int32) (x3 : Int32) (s0 : S_Md) : L_Md_follow_33  n (i + 1) x2 x3 s0 = (if (Md_end s0) ≤ x3 then (xm_p (Sum.inl (x2, x3, s0))) else (xm_rd (Md_kinds s0) x3 (fun v43 => (if v43 = (-1 : Int32) then (L_Md_follow_33  n i x2 (x3 + 1) s0) else (xm_rd (Md_kinds s0) x3 (fun v45 => (if v45 = 0 then (L_Md_follow_33  n i x2 (x3 + 1) s0) else (xm_rd (Md_trial s0) x3 (fun v47 => (xm_rd (Md_shown s0) v47 (fun v48 => (if v48 = (-1 : Int32) then (xm_rd (Md_trial s0) x3 (fun v76 => (xm_wr (Md_shown s0) v76 x3 (fun a77 => (if x2 = 0 then (L_Md_follow_33  n i x2 (x3 + 1) ((Md_kinds s0), (Md_values s0), (Md_firsts s0), (Md_manies s0), (Md_said s0), (Md_marked s0), (Md_leaders s0), (Md_trial s0), a77, (Md_end s0), (Md_nodes s0), (Md_features s0), (Md_parts s0), (Md_fields s0), (Md_pushedFeatures s0), (Md_pushedParts s0), (Md_pushed s0), (Md_touched s0), (Md_touches s0), (Md_reached s0), (Md_blocks s0), (Md_newBlocks s0), (Md_places s0), (Md_written s0), (Md_other s0), (Md_length s0))) else (xm_p (Sum.inl (x2, x3, ((Md_kinds s0), (Md_values s0), (Md_firsts s0), (Md_manies s0), (Md_said s0), (Md_marked s0), (Md_leaders s0), (Md_trial s0), a77, (Md_end s0), (Md_nodes s0), (Md_features s0), (Md_parts s0), (Md_fields s0), (Md_pushedFeatures s0), (Md_pushedParts s0), (Md_pushed s0), (Md_touched s0), (Md_touches s0), (Md_reached s0), (Md_blocks s0), (Md_newBlocks s0), (Md_places s0), (Md_written s0), (Md_other s0), (Md_length s0)))))))))) else (xm_b (m_Md_go n s0 v48 x3) (fun o50 => (if o50 = 0 then (xm_p (Sum.inr ((0 : Int32), s0))) else (xm_rd (Md_kinds s0) x3 (fun v56 => (if v56 = (3 : Int32) then (xm_b (L_Md_follow_113 x3 v48 n n x2 (0 : Int32) s0) (fun o70 => (if (o70.1) = 0 then (L_Md_follow_33  n i (o70.1) (x3 + 1) (o70.2.2)) else (xm_p (Sum.inl ((o70.1), x3, (o70.2.2))))))) else (if x2 = 0 then (L_Md_follow_33  n i x2 (x3 + 1) s0) else (xm_p (Sum.inl (x2, x3, s0)))))))))))))))))))))) := rfl
noncomputable def L_Md_follow_2  (n i : Nat) : Int32 → S_Md → MO ((Int32 × S_Md) ⊕ (Int32 × S_Md)) := Nat.rec (motive := fun _ => Int32 → S_Md → MO ((Int32 × S_Md) ⊕ (Int32 × S_Md))) (fun _ _ => none) (fun _ ih x2 s0 => (if x2 = 0 then (xm_p (Sum.inl (x2, s0))) else (xm_b (L_Md_follow_10 (0 : Int32) n n (0 : Int32) s0) (fun o37 => (xm_b (L_Md_follow_33  n n (0 : Int32) (0 : Int32) (o37.2)) (fun o79 => Sum.elim (fun e84 => (ih (e84.1) (e84.2.2))) (fun z => xm_p (Sum.inr z)) o79)))))) i
theorem L_Md_follow_2_s  (n i : Nat) (x2 : Int32) (s0 : S_Md) : L_Md_follow_2  n (i + 1) x2 s0 = (if x2 = 0 then (xm_p (Sum.inl (x2, s0))) else (xm_b (L_Md_follow_10 (0 : Int32) n n (0 : Int32) s0) (fun o37 => (xm_b (L_Md_follow_33  n n (0 : Int32) (0 : Int32) (o37.2)) (fun o79 => Sum.elim (fun e84 => (L_Md_follow_2  n i (e84.1) (e84.2.2))) (fun z => xm_p (Sum.inr z)) o79))))) := rfl
noncomputable def m_Md_follow (n : Nat) (s0 : S_Md)  : MO (Int32 × S_Md) := (xm_b (L_Md_follow_2  n n (1 : Int32) s0) (fun o87 => Sum.elim (fun e92 => (xm_p ((1 : Int32), (e92.2)))) (fun z => xm_p z) o87))
set_option maxHeartbeats 4000000 in
set_option maxRecDepth 100000 in
theorem wl_Md_follow_10 {X : XT} {l : Launch} {D : va_G} {cA : Nat → ClassId} {mc ms : Nat} (F : XF X l D cA b_Md_follow 6 (some FieldType.boolean) R_Md 1 26 mc ms) (n : Nat) (ob0 : Nat → Nat) (y2 : Int32)   : ∀ (i : Nat) (x3 : Int32) (s0 : S_Md) (ad0 : Nat → Nat) (nc ns : Nat) (out : Int32 × S_Md) (k : KC), L_Md_follow_10 y2 n i x3 s0 = some (out, k) → nc + k.1 ≤ mc → ns + k.2 ≤ ms → (∀ ad : Nat → Nat, XW X 6 ((w_Md cA ob0 ad  (out.2))) (nc + k.1) (ns + k.2) 31 [(0, .ref (ob0 0)), (1, .ref (ob0 8)), (2, .int y2), (3, .int (out.1))] []) → XW X 6 ((w_Md cA ob0 ad0  s0)) nc ns 10 [(0, .ref (ob0 0)), (1, .ref (ob0 8)), (2, .int y2), (3, .int x3)] [] := by
  intro i
  induction i with
  | zero =>
    intro x3 s0 ad0 nc ns out k hm
    replace hm : (none : MO (Int32 × S_Md)) = some (out, k) := hm
    cases hm
  | succ i ih =>
    intro x3 s0 ad0 nc ns out k hm hc hs KX
    rw [L_Md_follow_10_s] at hm
    refine x_ws (ws' := [((ob0 0), .inr (8, [.ref (ob0 1), .ref (ob0 2), .ref (ob0 3), .ref (ob0 4), .ref (ob0 5), .ref (ob0 6), .ref (ob0 7), .ref (ob0 8), .ref (ob0 9), .int (Md_end s0), .int (Md_nodes s0), .ref (ob0 10), .ref (ob0 11), .int (Md_fields s0), .ref (ob0 12), .ref (ob0 13), .int (Md_pushed s0), .ref (ob0 14), .int (Md_touches s0), .ref (ob0 15), .ref (ob0 16), .ref (ob0 17), .ref (ob0 18), .ref (ad0 0), .ref (ad0 1), .int (Md_length s0)])), ((ob0 1), .inl (cA 1, (Md_kinds s0).1, .inl (Md_kinds s0).2)), ((ob0 2), .inl (cA 0, (Md_values s0).1, .inl (Md_values s0).2)), ((ob0 3), .inl (cA 0, (Md_firsts s0).1, .inl (Md_firsts s0).2)), ((ob0 4), .inl (cA 0, (Md_manies s0).1, .inl (Md_manies s0).2)), ((ob0 5), .inl (cA 2, (Md_said s0).1, .inl (Md_said s0).2)), ((ob0 6), .inl (cA 2, (Md_marked s0).1, .inl (Md_marked s0).2)), ((ob0 7), .inl (cA 0, (Md_leaders s0).1, .inl (Md_leaders s0).2)), ((ob0 8), .inl (cA 0, (Md_trial s0).1, .inl (Md_trial s0).2)), ((ob0 9), .inl (cA 0, (Md_shown s0).1, .inl (Md_shown s0).2)), ((ob0 10), .inl (cA 0, (Md_features s0).1, .inl (Md_features s0).2)), ((ob0 11), .inl (cA 0, (Md_parts s0).1, .inl (Md_parts s0).2)), ((ob0 12), .inl (cA 0, (Md_pushedFeatures s0).1, .inl (Md_pushedFeatures s0).2)), ((ob0 13), .inl (cA 0, (Md_pushedParts s0).1, .inl (Md_pushedParts s0).2)), ((ob0 14), .inl (cA 0, (Md_touched s0).1, .inl (Md_touched s0).2)), ((ob0 15), .inl (cA 0, (Md_reached s0).1, .inl (Md_reached s0).2)), ((ob0 16), .inl (cA 0, (Md_blocks s0).1, .inl (Md_blocks s0).2)), ((ob0 17), .inl (cA 0, (Md_newBlocks s0).1, .inl (Md_newBlocks s0).2)), ((ob0 18), .inl (cA 0, (Md_places s0).1, .inl (Md_places s0).2)), ((ad0 0), .inl (cA 0, (Md_written s0).1, .inl (Md_written s0).2)), ((ad0 1), .inl (cA 0, (Md_other s0).1, .inl (Md_other s0).2))]) rfl ?_
    refine x_iload_n F d_Md_follow_10 3 rfl rfl ?_
    refine x_aload_n F d_Md_follow_11 0 rfl rfl ?_
    refine x_get F ck_Md hin_Md 0 9 rfl (by decide) kw_643 rfl rfl d_Md_follow_12 ?_
    refine x_icmp_ge F 31 d_Md_follow_15 (by decide) (fun c35 => ?_) (fun c35 => ?_)
    · replace hm := xm_t hm c35
      replace hm := xm_p_some hm
      obtain ⟨eo, c_o, d_o⟩ := hm
      subst eo
      refine x_sub [0, 1, 2, 3, 4, 5, 6, 7, 8, 9, 10, 11, 12, 13, 14, 15, 16, 17, 18, 19, 20] (by decide) ?_ (x_lv [0, 1, 2, 3] ?_ (x_cs (by omega) (by omega) (KX ad0)))
      · rfl
      · rfl
    · replace hm := xm_f hm c35
      refine x_aload_n F d_Md_follow_18 0 rfl rfl ?_
      refine x_get F ck_Md hin_Md 0 8 rfl (by decide) kw_642 rfl rfl d_Md_follow_19 ?_
      refine x_iload_n F d_Md_follow_22 3 rfl rfl ?_
      refine x_iconst (v := (-1 : Int32)) F d_Md_follow_23 (by decide) ?_
      replace hm := xm_wr_some hm
      obtain ⟨a36, e_a36, b_a36, hm⟩ := hm
      refine x_iast (x := (Md_shown s0)) (x' := a36) (ws' := [((ob0 0), .inr (8, [.ref (ob0 1), .ref (ob0 2), .ref (ob0 3), .ref (ob0 4), .ref (ob0 5), .ref (ob0 6), .ref (ob0 7), .ref (ob0 8), .ref (ob0 9), .int (Md_end s0), .int (Md_nodes s0), .ref (ob0 10), .ref (ob0 11), .int (Md_fields s0), .ref (ob0 12), .ref (ob0 13), .int (Md_pushed s0), .ref (ob0 14), .int (Md_touches s0), .ref (ob0 15), .ref (ob0 16), .ref (ob0 17), .ref (ob0 18), .ref (ad0 0), .ref (ad0 1), .int (Md_length s0)])), ((ob0 1), .inl (cA 1, (Md_kinds s0).1, .inl (Md_kinds s0).2)), ((ob0 2), .inl (cA 0, (Md_values s0).1, .inl (Md_values s0).2)), ((ob0 3), .inl (cA 0, (Md_firsts s0).1, .inl (Md_firsts s0).2)), ((ob0 4), .inl (cA 0, (Md_manies s0).1, .inl (Md_manies s0).2)), ((ob0 5), .inl (cA 2, (Md_said s0).1, .inl (Md_said s0).2)), ((ob0 6), .inl (cA 2, (Md_marked s0).1, .inl (Md_marked s0).2)), ((ob0 7), .inl (cA 0, (Md_leaders s0).1, .inl (Md_leaders s0).2)), ((ob0 8), .inl (cA 0, (Md_trial s0).1, .inl (Md_trial s0).2)), ((ob0 9), .inl (cA 0, a36.1, .inl a36.2)), ((ob0 10), .inl (cA 0, (Md_features s0).1, .inl (Md_features s0).2)), ((ob0 11), .inl (cA 0, (Md_parts s0).1, .inl (Md_parts s0).2)), ((ob0 12), .inl (cA 0, (Md_pushedFeatures s0).1, .inl (Md_pushedFeatures s0).2)), ((ob0 13), .inl (cA 0, (Md_pushedParts s0).1, .inl (Md_pushedParts s0).2)), ((ob0 14), .inl (cA 0, (Md_touched s0).1, .inl (Md_touched s0).2)), ((ob0 15), .inl (cA 0, (Md_reached s0).1, .inl (Md_reached s0).2)), ((ob0 16), .inl (cA 0, (Md_blocks s0).1, .inl (Md_blocks s0).2)), ((ob0 17), .inl (cA 0, (Md_newBlocks s0).1, .inl (Md_newBlocks s0).2)), ((ob0 18), .inl (cA 0, (Md_places s0).1, .inl (Md_places s0).2)), ((ad0 0), .inl (cA 0, (Md_written s0).1, .inl (Md_written s0).2)), ((ad0 1), .inl (cA 0, (Md_other s0).1, .inl (Md_other s0).2))]) F 9 rfl e_a36 b_a36 rfl d_Md_follow_24 ?_
      refine x_iinc (v := (x3 + 1)) (lv' := [(3, .int (x3 + 1)), (0, .ref (ob0 0)), (1, .ref (ob0 8)), (2, .int y2)]) F d_Md_follow_25 3 rfl rfl (by decide) rfl ?_
      refine x_goto F 10 d_Md_follow_28 (by decide) ?_
      refine x_sub [0, 1, 2, 3, 4, 5, 6, 7, 8, 9, 10, 11, 12, 13, 14, 15, 16, 17, 18, 19, 20] (by decide) ?_ (x_lv [1, 2, 3, 0] ?_ (ih (x3 + 1) ((Md_kinds s0), (Md_values s0), (Md_firsts s0), (Md_manies s0), (Md_said s0), (Md_marked s0), (Md_leaders s0), (Md_trial s0), a36, (Md_end s0), (Md_nodes s0), (Md_features s0), (Md_parts s0), (Md_fields s0), (Md_pushedFeatures s0), (Md_pushedParts s0), (Md_pushed s0), (Md_touched s0), (Md_touches s0), (Md_reached s0), (Md_blocks s0), (Md_newBlocks s0), (Md_places s0), (Md_written s0), (Md_other s0), (Md_length s0)) ad0 _ _ out k hm (by omega) (by omega) (fun ad => x_cs (by omega) (by omega) (KX ad))))
      · rfl
      · rfl
set_option maxHeartbeats 4000000 in
set_option maxRecDepth 100000 in
theorem wl_Md_follow_113 {X : XT} {l : Launch} {D : va_G} {cA : Nat → ClassId} {mc ms : Nat} (F : XF X l D cA b_Md_follow 6 (some FieldType.boolean) R_Md 1 26 mc ms) (n : Nat) (ob0 : Nat → Nat) (y3 : Int32) (y4 : Int32)   : ∀ (i : Nat) (x2 : Int32) (x5 : Int32) (s0 : S_Md) (ad0 : Nat → Nat) (nc ns : Nat) (out : Int32 × Int32 × S_Md) (k : KC), L_Md_follow_113 y3 y4 n i x2 x5 s0 = some (out, k) → nc + k.1 ≤ mc → ns + k.2 ≤ ms → (∀ ad : Nat → Nat, XW X 6 ((w_Md cA ob0 ad  (out.2.2))) (nc + k.1) (ns + k.2) 167 [(0, .ref (ob0 0)), (1, .ref (ob0 8)), (2, .int (out.1)), (3, .int y3), (4, .int y4), (5, .int (out.2.1))] []) → XW X 6 ((w_Md cA ob0 ad0  s0)) nc ns 113 [(0, .ref (ob0 0)), (1, .ref (ob0 8)), (2, .int x2), (3, .int y3), (4, .int y4), (5, .int x5)] [] := by
  intro i
  induction i with
  | zero =>
    intro x2 x5 s0 ad0 nc ns out k hm
    replace hm : (none : MO (Int32 × Int32 × S_Md)) = some (out, k) := hm
    cases hm
  | succ i ih =>
    intro x2 x5 s0 ad0 nc ns out k hm hc hs KX
    rw [L_Md_follow_113_s] at hm
    refine x_ws (ws' := [((ob0 0), .inr (8, [.ref (ob0 1), .ref (ob0 2), .ref (ob0 3), .ref (ob0 4), .ref (ob0 5), .ref (ob0 6), .ref (ob0 7), .ref (ob0 8), .ref (ob0 9), .int (Md_end s0), .int (Md_nodes s0), .ref (ob0 10), .ref (ob0 11), .int (Md_fields s0), .ref (ob0 12), .ref (ob0 13), .int (Md_pushed s0), .ref (ob0 14), .int (Md_touches s0), .ref (ob0 15), .ref (ob0 16), .ref (ob0 17), .ref (ob0 18), .ref (ad0 0), .ref (ad0 1), .int (Md_length s0)])), ((ob0 1), .inl (cA 1, (Md_kinds s0).1, .inl (Md_kinds s0).2)), ((ob0 2), .inl (cA 0, (Md_values s0).1, .inl (Md_values s0).2)), ((ob0 3), .inl (cA 0, (Md_firsts s0).1, .inl (Md_firsts s0).2)), ((ob0 4), .inl (cA 0, (Md_manies s0).1, .inl (Md_manies s0).2)), ((ob0 5), .inl (cA 2, (Md_said s0).1, .inl (Md_said s0).2)), ((ob0 6), .inl (cA 2, (Md_marked s0).1, .inl (Md_marked s0).2)), ((ob0 7), .inl (cA 0, (Md_leaders s0).1, .inl (Md_leaders s0).2)), ((ob0 8), .inl (cA 0, (Md_trial s0).1, .inl (Md_trial s0).2)), ((ob0 9), .inl (cA 0, (Md_shown s0).1, .inl (Md_shown s0).2)), ((ob0 10), .inl (cA 0, (Md_features s0).1, .inl (Md_features s0).2)), ((ob0 11), .inl (cA 0, (Md_parts s0).1, .inl (Md_parts s0).2)), ((ob0 12), .inl (cA 0, (Md_pushedFeatures s0).1, .inl (Md_pushedFeatures s0).2)), ((ob0 13), .inl (cA 0, (Md_pushedParts s0).1, .inl (Md_pushedParts s0).2)), ((ob0 14), .inl (cA 0, (Md_touched s0).1, .inl (Md_touched s0).2)), ((ob0 15), .inl (cA 0, (Md_reached s0).1, .inl (Md_reached s0).2)), ((ob0 16), .inl (cA 0, (Md_blocks s0).1, .inl (Md_blocks s0).2)), ((ob0 17), .inl (cA 0, (Md_newBlocks s0).1, .inl (Md_newBlocks s0).2)), ((ob0 18), .inl (cA 0, (Md_places s0).1, .inl (Md_places s0).2)), ((ad0 0), .inl (cA 0, (Md_written s0).1, .inl (Md_written s0).2)), ((ad0 1), .inl (cA 0, (Md_other s0).1, .inl (Md_other s0).2))]) rfl ?_
    refine x_iload F d_Md_follow_113 5 rfl ?_
    refine x_aload_n F d_Md_follow_115 0 rfl rfl ?_
    refine x_get F ck_Md hin_Md 0 3 rfl (by decide) kw_637 rfl rfl d_Md_follow_116 ?_
    refine x_iload_n F d_Md_follow_119 3 rfl rfl ?_
    replace hm := xm_rd_some hm
    obtain ⟨v59, e_v59, b_v59, hm⟩ := hm
    refine x_iald (x := (Md_manies s0)) F 4 rfl e_v59 b_v59 d_Md_follow_120 ?_
    refine x_icmp_ge F 167 d_Md_follow_121 (by decide) (fun c60 => ?_) (fun c60 => ?_)
    · replace hm := xm_t hm c60
      replace hm := xm_p_some hm
      obtain ⟨eo, c_o, d_o⟩ := hm
      subst eo
      refine x_sub [0, 1, 2, 3, 4, 5, 6, 7, 8, 9, 10, 11, 12, 13, 14, 15, 16, 17, 18, 19, 20] (by decide) ?_ (x_lv [0, 1, 2, 3, 4, 5] ?_ (x_cs (by omega) (by omega) (KX ad0)))
      · rfl
      · rfl
    · replace hm := xm_f hm c60
      refine x_iload_n F d_Md_follow_124 2 rfl rfl ?_
      refine x_aload_n F d_Md_follow_125 0 rfl rfl ?_
      refine x_aload_n F d_Md_follow_126 1 rfl rfl ?_
      refine x_aload_n F d_Md_follow_127 0 rfl rfl ?_
      refine x_get F ck_Md hin_Md 0 12 rfl (by decide) kw_646 rfl rfl d_Md_follow_128 ?_
      refine x_aload_n F d_Md_follow_131 0 rfl rfl ?_
      refine x_get F ck_Md hin_Md 0 2 rfl (by decide) kw_636 rfl rfl d_Md_follow_132 ?_
      refine x_iload_n F d_Md_follow_135 3 rfl rfl ?_
      replace hm := xm_rd_some hm
      obtain ⟨v61, e_v61, b_v61, hm⟩ := hm
      refine x_iald (x := (Md_firsts s0)) F 3 rfl e_v61 b_v61 d_Md_follow_136 ?_
      refine x_iload F d_Md_follow_137 5 rfl ?_
      refine x_iadd F d_Md_follow_139 ?_
      replace hm := xm_rd_some hm
      obtain ⟨v62, e_v62, b_v62, hm⟩ := hm
      refine x_iald (x := (Md_parts s0)) F 11 rfl e_v62 b_v62 d_Md_follow_140 ?_
      refine x_aload_n F d_Md_follow_141 0 rfl rfl ?_
      refine x_get F ck_Md hin_Md 0 12 rfl (by decide) kw_646 rfl rfl d_Md_follow_142 ?_
      refine x_aload_n F d_Md_follow_145 0 rfl rfl ?_
      refine x_get F ck_Md hin_Md 0 2 rfl (by decide) kw_636 rfl rfl d_Md_follow_146 ?_
      refine x_iload F d_Md_follow_149 4 rfl ?_
      replace hm := xm_rd_some hm
      obtain ⟨v63, e_v63, b_v63, hm⟩ := hm
      refine x_iald (x := (Md_firsts s0)) F 3 rfl e_v63 b_v63 d_Md_follow_151 ?_
      refine x_iload F d_Md_follow_152 5 rfl ?_
      refine x_iadd F d_Md_follow_154 ?_
      replace hm := xm_rd_some hm
      obtain ⟨v64, e_v64, b_v64, hm⟩ := hm
      refine x_iald (x := (Md_parts s0)) F 11 rfl e_v64 b_v64 d_Md_follow_155 ?_
      replace hm := xm_b_some hm
      obtain ⟨o65, k66, k67, h68, hm, c_o65, d_o65⟩ := hm
      refine x_callV (n := 3) (C := R_Md) (wr := []) F (c_Md_join l D cA n ob0 ad0 s0 v62 v64 o65 k66 h68) kw_770 kw_767 kw_769 kw_23 kw_47 ⟨rfl, by decide, by decide, by decide +kernel⟩ rfl (by decide) (by decide) (ci := 8) rfl rfl 0 rfl [0, 1, 2, 3, 4, 5, 6, 7, 8, 9, 10, 11, 12, 13, 14, 15, 16, 17, 18, 19, 20] [] rfl rfl (by decide) (by decide) (by decide) rfl (Nat.le_of_ble_eq_true rfl) (by omega) (by omega) d_Md_follow_156 (fun ad69 => ?_)
      refine x_nf (ws' := [((ob0 0), .inr (8, [.ref (ob0 1), .ref (ob0 2), .ref (ob0 3), .ref (ob0 4), .ref (ob0 5), .ref (ob0 6), .ref (ob0 7), .ref (ob0 8), .ref (ob0 9), .int (Md_end (o65.2)), .int (Md_nodes (o65.2)), .ref (ob0 10), .ref (ob0 11), .int (Md_fields (o65.2)), .ref (ob0 12), .ref (ob0 13), .int (Md_pushed (o65.2)), .ref (ob0 14), .int (Md_touches (o65.2)), .ref (ob0 15), .ref (ob0 16), .ref (ob0 17), .ref (ob0 18), .ref (ad69 0), .ref (ad69 1), .int (Md_length (o65.2))])), ((ob0 1), .inl (cA 1, (Md_kinds (o65.2)).1, .inl (Md_kinds (o65.2)).2)), ((ob0 2), .inl (cA 0, (Md_values (o65.2)).1, .inl (Md_values (o65.2)).2)), ((ob0 3), .inl (cA 0, (Md_firsts (o65.2)).1, .inl (Md_firsts (o65.2)).2)), ((ob0 4), .inl (cA 0, (Md_manies (o65.2)).1, .inl (Md_manies (o65.2)).2)), ((ob0 5), .inl (cA 2, (Md_said (o65.2)).1, .inl (Md_said (o65.2)).2)), ((ob0 6), .inl (cA 2, (Md_marked (o65.2)).1, .inl (Md_marked (o65.2)).2)), ((ob0 7), .inl (cA 0, (Md_leaders (o65.2)).1, .inl (Md_leaders (o65.2)).2)), ((ob0 8), .inl (cA 0, (Md_trial (o65.2)).1, .inl (Md_trial (o65.2)).2)), ((ob0 9), .inl (cA 0, (Md_shown (o65.2)).1, .inl (Md_shown (o65.2)).2)), ((ob0 10), .inl (cA 0, (Md_features (o65.2)).1, .inl (Md_features (o65.2)).2)), ((ob0 11), .inl (cA 0, (Md_parts (o65.2)).1, .inl (Md_parts (o65.2)).2)), ((ob0 12), .inl (cA 0, (Md_pushedFeatures (o65.2)).1, .inl (Md_pushedFeatures (o65.2)).2)), ((ob0 13), .inl (cA 0, (Md_pushedParts (o65.2)).1, .inl (Md_pushedParts (o65.2)).2)), ((ob0 14), .inl (cA 0, (Md_touched (o65.2)).1, .inl (Md_touched (o65.2)).2)), ((ob0 15), .inl (cA 0, (Md_reached (o65.2)).1, .inl (Md_reached (o65.2)).2)), ((ob0 16), .inl (cA 0, (Md_blocks (o65.2)).1, .inl (Md_blocks (o65.2)).2)), ((ob0 17), .inl (cA 0, (Md_newBlocks (o65.2)).1, .inl (Md_newBlocks (o65.2)).2)), ((ob0 18), .inl (cA 0, (Md_places (o65.2)).1, .inl (Md_places (o65.2)).2)), ((ad69 0), .inl (cA 0, (Md_written (o65.2)).1, .inl (Md_written (o65.2)).2)), ((ad69 1), .inl (cA 0, (Md_other (o65.2)).1, .inl (Md_other (o65.2)).2))]) (st' := [.int (o65.1), .int x2]) rfl rfl ?_
      refine x_ior F d_Md_follow_159 ?_
      refine x_istore_n (lv' := [(2, .int (x2 ||| (o65.1))), (0, .ref (ob0 0)), (1, .ref (ob0 8)), (3, .int y3), (4, .int y4), (5, .int x5)]) F d_Md_follow_160 rfl (by decide) rfl ?_
      refine x_iinc (v := (x5 + 1)) (lv' := [(5, .int (x5 + 1)), (2, .int (x2 ||| (o65.1))), (0, .ref (ob0 0)), (1, .ref (ob0 8)), (3, .int y3), (4, .int y4)]) F d_Md_follow_161 5 rfl rfl (by decide) rfl ?_
      refine x_goto F 113 d_Md_follow_164 (by decide) ?_
      refine x_sub [0, 1, 2, 3, 4, 5, 6, 7, 8, 9, 10, 11, 12, 13, 14, 15, 16, 17, 18, 19, 20] (by decide) ?_ (x_lv [2, 3, 1, 4, 5, 0] ?_ (ih (x2 ||| (o65.1)) (x5 + 1) (o65.2) ad69 _ _ out k67 hm (by omega) (by omega) (fun ad => x_cs (by omega) (by omega) (KX ad))))
      · rfl
      · rfl
set_option maxHeartbeats 4000000 in
set_option maxRecDepth 100000 in
theorem wl_Md_follow_33 {X : XT} {l : Launch} {D : va_G} {cA : Nat → ClassId} {mc ms : Nat} (F : XF X l D cA b_Md_follow 6 (some FieldType.boolean) R_Md 1 26 mc ms) (n : Nat) (ob0 : Nat → Nat)    : ∀ (i : Nat) (x2 : Int32) (x3 : Int32) (s0 : S_Md) (ad0 : Nat → Nat) (nc ns : Nat) (out : (Int32 × Int32 × S_Md) ⊕ (Int32 × S_Md)) (k : KC), L_Md_follow_33  n i x2 x3 s0 = some (out, k) → nc + k.1 ≤ mc → ns + k.2 ≤ ms → (∀ e : Int32 × Int32 × S_Md, out = Sum.inl e → ∀ ad : Nat → Nat, XW X 6 ((w_Md cA ob0 ad  (e.2.2))) (nc + k.1) (ns + k.2) 180 [(0, .ref (ob0 0)), (1, .ref (ob0 8)), (2, .int (e.1)), (3, .int (e.2.1))] []) → (∀ r : Int32 × S_Md, out = Sum.inr r → ∀ (ad : Nat → Nat) (pc : Nat) (lv : List (Nat × Value)), narrow .boolean (.int (r.1)) = .int (r.1) → decode b_Md_follow pc = .ok (.ireturn, 1) → XW X 6 ((w_Md cA ob0 ad  (r.2))) (nc + k.1) (ns + k.2) pc lv [.int (r.1)]) → XW X 6 ((w_Md cA ob0 ad0  s0)) nc ns 33 [(0, .ref (ob0 0)), (1, .ref (ob0 8)), (2, .int x2), (3, .int x3)] [] := by
  intro i
  induction i with
  | zero =>
    intro x2 x3 s0 ad0 nc ns out k hm
    replace hm : (none : MO ((Int32 × Int32 × S_Md) ⊕ (Int32 × S_Md))) = some (out, k) := hm
    cases hm
  | succ i ih =>
    intro x2 x3 s0 ad0 nc ns out k hm hc hs KX KR
    rw [L_Md_follow_33_s] at hm
    refine x_ws (ws' := [((ob0 0), .inr (8, [.ref (ob0 1), .ref (ob0 2), .ref (ob0 3), .ref (ob0 4), .ref (ob0 5), .ref (ob0 6), .ref (ob0 7), .ref (ob0 8), .ref (ob0 9), .int (Md_end s0), .int (Md_nodes s0), .ref (ob0 10), .ref (ob0 11), .int (Md_fields s0), .ref (ob0 12), .ref (ob0 13), .int (Md_pushed s0), .ref (ob0 14), .int (Md_touches s0), .ref (ob0 15), .ref (ob0 16), .ref (ob0 17), .ref (ob0 18), .ref (ad0 0), .ref (ad0 1), .int (Md_length s0)])), ((ob0 1), .inl (cA 1, (Md_kinds s0).1, .inl (Md_kinds s0).2)), ((ob0 2), .inl (cA 0, (Md_values s0).1, .inl (Md_values s0).2)), ((ob0 3), .inl (cA 0, (Md_firsts s0).1, .inl (Md_firsts s0).2)), ((ob0 4), .inl (cA 0, (Md_manies s0).1, .inl (Md_manies s0).2)), ((ob0 5), .inl (cA 2, (Md_said s0).1, .inl (Md_said s0).2)), ((ob0 6), .inl (cA 2, (Md_marked s0).1, .inl (Md_marked s0).2)), ((ob0 7), .inl (cA 0, (Md_leaders s0).1, .inl (Md_leaders s0).2)), ((ob0 8), .inl (cA 0, (Md_trial s0).1, .inl (Md_trial s0).2)), ((ob0 9), .inl (cA 0, (Md_shown s0).1, .inl (Md_shown s0).2)), ((ob0 10), .inl (cA 0, (Md_features s0).1, .inl (Md_features s0).2)), ((ob0 11), .inl (cA 0, (Md_parts s0).1, .inl (Md_parts s0).2)), ((ob0 12), .inl (cA 0, (Md_pushedFeatures s0).1, .inl (Md_pushedFeatures s0).2)), ((ob0 13), .inl (cA 0, (Md_pushedParts s0).1, .inl (Md_pushedParts s0).2)), ((ob0 14), .inl (cA 0, (Md_touched s0).1, .inl (Md_touched s0).2)), ((ob0 15), .inl (cA 0, (Md_reached s0).1, .inl (Md_reached s0).2)), ((ob0 16), .inl (cA 0, (Md_blocks s0).1, .inl (Md_blocks s0).2)), ((ob0 17), .inl (cA 0, (Md_newBlocks s0).1, .inl (Md_newBlocks s0).2)), ((ob0 18), .inl (cA 0, (Md_places s0).1, .inl (Md_places s0).2)), ((ad0 0), .inl (cA 0, (Md_written s0).1, .inl (Md_written s0).2)), ((ad0 1), .inl (cA 0, (Md_other s0).1, .inl (Md_other s0).2))]) rfl ?_
    refine x_iload_n F d_Md_follow_33 3 rfl rfl ?_
    refine x_aload_n F d_Md_follow_34 0 rfl rfl ?_
    refine x_get F ck_Md hin_Md 0 9 rfl (by decide) kw_643 rfl rfl d_Md_follow_35 ?_
    refine x_icmp_ge F 180 d_Md_follow_38 (by decide) (fun c42 => ?_) (fun c42 => ?_)
    · replace hm := xm_t hm c42
      replace hm := xm_p_some hm
      obtain ⟨eo, c_o, d_o⟩ := hm
      refine x_sub [0, 1, 2, 3, 4, 5, 6, 7, 8, 9, 10, 11, 12, 13, 14, 15, 16, 17, 18, 19, 20] (by decide) ?_ (x_lv [0, 1, 2, 3] ?_ (x_cs (by omega) (by omega) (KX _ eo ad0)))
      · rfl
      · rfl
    · replace hm := xm_f hm c42
      refine x_aload_n F d_Md_follow_41 0 rfl rfl ?_
      refine x_get F ck_Md hin_Md 0 0 rfl (by decide) kw_634 rfl rfl d_Md_follow_42 ?_
      refine x_iload_n F d_Md_follow_45 3 rfl rfl ?_
      replace hm := xm_rd_some hm
      obtain ⟨v43, e_v43, b_v43, hm⟩ := hm
      refine x_bald (x := (Md_kinds s0)) F 1 rfl e_v43 b_v43 d_Md_follow_46 ?_
      refine x_iconst (v := (-1 : Int32)) F d_Md_follow_47 (by decide) ?_
      refine x_icmp_eq F 174 d_Md_follow_48 (by decide) (fun c44 => ?_) (fun c44 => ?_)
      · replace hm := xm_t hm c44
        refine x_iinc (v := (x3 + 1)) (lv' := [(3, .int (x3 + 1)), (0, .ref (ob0 0)), (1, .ref (ob0 8)), (2, .int x2)]) F d_Md_follow_174 3 rfl rfl (by decide) rfl ?_
        refine x_goto F 33 d_Md_follow_177 (by decide) ?_
        refine x_sub [0, 1, 2, 3, 4, 5, 6, 7, 8, 9, 10, 11, 12, 13, 14, 15, 16, 17, 18, 19, 20] (by decide) ?_ (x_lv [1, 2, 3, 0] ?_ (ih x2 (x3 + 1) s0 ad0 _ _ out k hm (by omega) (by omega) (fun e he ad => x_cs (by omega) (by omega) (KX e he ad)) (fun r hr ad pc lv hn hd => x_cs (by omega) (by omega) (KR r hr ad pc lv hn hd))))
        · rfl
        · rfl
      · replace hm := xm_f hm c44
        refine x_aload_n F d_Md_follow_51 0 rfl rfl ?_
        refine x_get F ck_Md hin_Md 0 0 rfl (by decide) kw_634 rfl rfl d_Md_follow_52 ?_
        refine x_iload_n F d_Md_follow_55 3 rfl rfl ?_
        replace hm := xm_rd_some hm
        obtain ⟨v45, e_v45, b_v45, hm⟩ := hm
        refine x_bald (x := (Md_kinds s0)) F 1 rfl e_v45 b_v45 d_Md_follow_56 ?_
        refine x_if_eq F 174 d_Md_follow_57 (by decide) (fun c46 => ?_) (fun c46 => ?_)
        · replace hm := xm_t hm c46
          refine x_iinc (v := (x3 + 1)) (lv' := [(3, .int (x3 + 1)), (0, .ref (ob0 0)), (1, .ref (ob0 8)), (2, .int x2)]) F d_Md_follow_174 3 rfl rfl (by decide) rfl ?_
          refine x_goto F 33 d_Md_follow_177 (by decide) ?_
          refine x_sub [0, 1, 2, 3, 4, 5, 6, 7, 8, 9, 10, 11, 12, 13, 14, 15, 16, 17, 18, 19, 20] (by decide) ?_ (x_lv [1, 2, 3, 0] ?_ (ih x2 (x3 + 1) s0 ad0 _ _ out k hm (by omega) (by omega) (fun e he ad => x_cs (by omega) (by omega) (KX e he ad)) (fun r hr ad pc lv hn hd => x_cs (by omega) (by omega) (KR r hr ad pc lv hn hd))))
          · rfl
          · rfl
        · replace hm := xm_f hm c46
          refine x_aload_n F d_Md_follow_60 0 rfl rfl ?_
          refine x_get F ck_Md hin_Md 0 8 rfl (by decide) kw_642 rfl rfl d_Md_follow_61 ?_
          refine x_aload_n F d_Md_follow_64 1 rfl rfl ?_
          refine x_iload_n F d_Md_follow_65 3 rfl rfl ?_
          replace hm := xm_rd_some hm
          obtain ⟨v47, e_v47, b_v47, hm⟩ := hm
          refine x_iald (x := (Md_trial s0)) F 8 rfl e_v47 b_v47 d_Md_follow_66 ?_
          replace hm := xm_rd_some hm
          obtain ⟨v48, e_v48, b_v48, hm⟩ := hm
          refine x_iald (x := (Md_shown s0)) F 9 rfl e_v48 b_v48 d_Md_follow_67 ?_
          refine x_istore (lv' := [(4, .int v48), (0, .ref (ob0 0)), (1, .ref (ob0 8)), (2, .int x2), (3, .int x3)]) F d_Md_follow_68 (by decide) rfl ?_
          refine x_iload F d_Md_follow_70 0 rfl ?_
          refine x_iconst (v := (-1 : Int32)) F d_Md_follow_72 (by decide) ?_
          refine x_icmp_ne F 88 d_Md_follow_73 (by decide) (fun c49 => ?_) (fun c49 => ?_)
          · replace hm := xm_f hm c49
            refine x_aload_n F d_Md_follow_88 1 rfl rfl ?_
            refine x_iload F d_Md_follow_89 0 rfl ?_
            refine x_iload_n F d_Md_follow_91 4 rfl rfl ?_
            replace hm := xm_b_some hm
            obtain ⟨o50, k51, k52, h53, hm, c_o50, d_o50⟩ := hm
            refine x_callV (n := 2) (C := R_Md) (wr := []) F (c_Md_go l D cA n ob0 ad0 s0 v48 x3 o50 k51 h53) kw_778 kw_775 kw_777 kw_25 kw_47 ⟨rfl, by decide, by decide, by decide +kernel⟩ rfl (by decide) (by decide) (ci := 8) rfl rfl 0 rfl [0, 1, 2, 3, 4, 5, 6, 7, 8, 9, 10, 11, 12, 13, 14, 15, 16, 17, 18, 19, 20] [] rfl rfl (by decide) (by decide) (by decide) rfl (Nat.le_of_ble_eq_true rfl) (by omega) (by omega) d_Md_follow_92 (fun ad54 => ?_)
            refine x_nf (ws' := [((ob0 0), .inr (8, [.ref (ob0 1), .ref (ob0 2), .ref (ob0 3), .ref (ob0 4), .ref (ob0 5), .ref (ob0 6), .ref (ob0 7), .ref (ob0 8), .ref (ob0 9), .int (Md_end s0), .int (Md_nodes s0), .ref (ob0 10), .ref (ob0 11), .int (Md_fields s0), .ref (ob0 12), .ref (ob0 13), .int (Md_pushed s0), .ref (ob0 14), .int (Md_touches s0), .ref (ob0 15), .ref (ob0 16), .ref (ob0 17), .ref (ob0 18), .ref (ad0 0), .ref (ad0 1), .int (Md_length s0)])), ((ob0 1), .inl (cA 1, (Md_kinds s0).1, .inl (Md_kinds s0).2)), ((ob0 2), .inl (cA 0, (Md_values s0).1, .inl (Md_values s0).2)), ((ob0 3), .inl (cA 0, (Md_firsts s0).1, .inl (Md_firsts s0).2)), ((ob0 4), .inl (cA 0, (Md_manies s0).1, .inl (Md_manies s0).2)), ((ob0 5), .inl (cA 2, (Md_said s0).1, .inl (Md_said s0).2)), ((ob0 6), .inl (cA 2, (Md_marked s0).1, .inl (Md_marked s0).2)), ((ob0 7), .inl (cA 0, (Md_leaders s0).1, .inl (Md_leaders s0).2)), ((ob0 8), .inl (cA 0, (Md_trial s0).1, .inl (Md_trial s0).2)), ((ob0 9), .inl (cA 0, (Md_shown s0).1, .inl (Md_shown s0).2)), ((ob0 10), .inl (cA 0, (Md_features s0).1, .inl (Md_features s0).2)), ((ob0 11), .inl (cA 0, (Md_parts s0).1, .inl (Md_parts s0).2)), ((ob0 12), .inl (cA 0, (Md_pushedFeatures s0).1, .inl (Md_pushedFeatures s0).2)), ((ob0 13), .inl (cA 0, (Md_pushedParts s0).1, .inl (Md_pushedParts s0).2)), ((ob0 14), .inl (cA 0, (Md_touched s0).1, .inl (Md_touched s0).2)), ((ob0 15), .inl (cA 0, (Md_reached s0).1, .inl (Md_reached s0).2)), ((ob0 16), .inl (cA 0, (Md_blocks s0).1, .inl (Md_blocks s0).2)), ((ob0 17), .inl (cA 0, (Md_newBlocks s0).1, .inl (Md_newBlocks s0).2)), ((ob0 18), .inl (cA 0, (Md_places s0).1, .inl (Md_places s0).2)), ((ad0 0), .inl (cA 0, (Md_written s0).1, .inl (Md_written s0).2)), ((ad0 1), .inl (cA 0, (Md_other s0).1, .inl (Md_other s0).2))]) (st' := [.int o50]) rfl rfl ?_
            refine x_if_ne F 100 d_Md_follow_95 (by decide) (fun c55 => ?_) (fun c55 => ?_)
            · replace hm := xm_f hm c55
              refine x_aload_n F d_Md_follow_100 1 rfl rfl ?_
              refine x_get F ck_Md hin_Md 0 0 rfl (by decide) kw_634 rfl rfl d_Md_follow_101 ?_
              refine x_iload_n F d_Md_follow_104 4 rfl rfl ?_
              replace hm := xm_rd_some hm
              obtain ⟨v56, e_v56, b_v56, hm⟩ := hm
              refine x_bald (x := (Md_kinds s0)) F 1 rfl e_v56 b_v56 d_Md_follow_105 ?_
              refine x_iconst (v := (3 : Int32)) F d_Md_follow_106 (by decide) ?_
              refine x_icmp_ne F 167 d_Md_follow_107 (by decide) (fun c57 => ?_) (fun c57 => ?_)
              · replace hm := xm_f hm c57
                refine x_iload_n F d_Md_follow_167 3 rfl rfl ?_
                refine x_if_eq F 174 d_Md_follow_168 (by decide) (fun c58 => ?_) (fun c58 => ?_)
                · replace hm := xm_t hm c58
                  refine x_iinc (v := (x3 + 1)) (lv' := [(3, .int (x3 + 1)), (4, .int v48), (0, .ref (ob0 0)), (1, .ref (ob0 8)), (2, .int x2)]) F d_Md_follow_174 4 rfl rfl (by decide) rfl ?_
                  refine x_goto F 33 d_Md_follow_177 (by decide) ?_
                  refine x_sub [0, 1, 2, 3, 4, 5, 6, 7, 8, 9, 10, 11, 12, 13, 14, 15, 16, 17, 18, 19, 20] (by decide) ?_ (x_lv [2, 3, 4, 0] ?_ (ih x2 (x3 + 1) s0 ad0 _ _ out k52 hm (by omega) (by omega) (fun e he ad => x_cs (by omega) (by omega) (KX e he ad)) (fun r hr ad pc lv hn hd => x_cs (by omega) (by omega) (KR r hr ad pc lv hn hd))))
                  · rfl
                  · rfl
                · replace hm := xm_f hm c58
                  refine x_goto F 180 d_Md_follow_171 (by decide) ?_
                  replace hm := xm_p_some hm
                  obtain ⟨eo, c_o, d_o⟩ := hm
                  refine x_sub [0, 1, 2, 3, 4, 5, 6, 7, 8, 9, 10, 11, 12, 13, 14, 15, 16, 17, 18, 19, 20] (by decide) ?_ (x_lv [1, 2, 3, 4] ?_ (x_cs (by omega) (by omega) (KX _ eo ad0)))
                  · rfl
                  · rfl
              · replace hm := xm_t hm c57
                refine x_iconst (v := (0 : Int32)) F d_Md_follow_110 (by decide) ?_
                refine x_istore (lv' := [(5, .int (0 : Int32)), (4, .int v48), (0, .ref (ob0 0)), (1, .ref (ob0 8)), (2, .int x2), (3, .int x3)]) F d_Md_follow_111 (by decide) rfl ?_
                replace hm := xm_b_some hm
                obtain ⟨o70, k71, k72, h73, hm, c_o70, d_o70⟩ := hm
                refine x_sub [0, 1, 2, 3, 4, 5, 6, 7, 8, 9, 10, 11, 12, 13, 14, 15, 16, 17, 18, 19, 20] (by decide) ?_ (x_lv [2, 3, 4, 5, 1, 0] ?_ (wl_Md_follow_113 F n ob0 x3 v48  n x2 (0 : Int32) s0 ad0 _ _ o70 k71 h73 (by omega) (by omega) (fun ad74 => ?_)))
                · rfl
                · rfl
                refine x_nf2 (ws' := [((ob0 0), .inr (8, [.ref (ob0 1), .ref (ob0 2), .ref (ob0 3), .ref (ob0 4), .ref (ob0 5), .ref (ob0 6), .ref (ob0 7), .ref (ob0 8), .ref (ob0 9), .int (Md_end (o70.2.2)), .int (Md_nodes (o70.2.2)), .ref (ob0 10), .ref (ob0 11), .int (Md_fields (o70.2.2)), .ref (ob0 12), .ref (ob0 13), .int (Md_pushed (o70.2.2)), .ref (ob0 14), .int (Md_touches (o70.2.2)), .ref (ob0 15), .ref (ob0 16), .ref (ob0 17), .ref (ob0 18), .ref (ad74 0), .ref (ad74 1), .int (Md_length (o70.2.2))])), ((ob0 1), .inl (cA 1, (Md_kinds (o70.2.2)).1, .inl (Md_kinds (o70.2.2)).2)), ((ob0 2), .inl (cA 0, (Md_values (o70.2.2)).1, .inl (Md_values (o70.2.2)).2)), ((ob0 3), .inl (cA 0, (Md_firsts (o70.2.2)).1, .inl (Md_firsts (o70.2.2)).2)), ((ob0 4), .inl (cA 0, (Md_manies (o70.2.2)).1, .inl (Md_manies (o70.2.2)).2)), ((ob0 5), .inl (cA 2, (Md_said (o70.2.2)).1, .inl (Md_said (o70.2.2)).2)), ((ob0 6), .inl (cA 2, (Md_marked (o70.2.2)).1, .inl (Md_marked (o70.2.2)).2)), ((ob0 7), .inl (cA 0, (Md_leaders (o70.2.2)).1, .inl (Md_leaders (o70.2.2)).2)), ((ob0 8), .inl (cA 0, (Md_trial (o70.2.2)).1, .inl (Md_trial (o70.2.2)).2)), ((ob0 9), .inl (cA 0, (Md_shown (o70.2.2)).1, .inl (Md_shown (o70.2.2)).2)), ((ob0 10), .inl (cA 0, (Md_features (o70.2.2)).1, .inl (Md_features (o70.2.2)).2)), ((ob0 11), .inl (cA 0, (Md_parts (o70.2.2)).1, .inl (Md_parts (o70.2.2)).2)), ((ob0 12), .inl (cA 0, (Md_pushedFeatures (o70.2.2)).1, .inl (Md_pushedFeatures (o70.2.2)).2)), ((ob0 13), .inl (cA 0, (Md_pushedParts (o70.2.2)).1, .inl (Md_pushedParts (o70.2.2)).2)), ((ob0 14), .inl (cA 0, (Md_touched (o70.2.2)).1, .inl (Md_touched (o70.2.2)).2)), ((ob0 15), .inl (cA 0, (Md_reached (o70.2.2)).1, .inl (Md_reached (o70.2.2)).2)), ((ob0 16), .inl (cA 0, (Md_blocks (o70.2.2)).1, .inl (Md_blocks (o70.2.2)).2)), ((ob0 17), .inl (cA 0, (Md_newBlocks (o70.2.2)).1, .inl (Md_newBlocks (o70.2.2)).2)), ((ob0 18), .inl (cA 0, (Md_places (o70.2.2)).1, .inl (Md_places (o70.2.2)).2)), ((ad74 0), .inl (cA 0, (Md_written (o70.2.2)).1, .inl (Md_written (o70.2.2)).2)), ((ad74 1), .inl (cA 0, (Md_other (o70.2.2)).1, .inl (Md_other (o70.2.2)).2))]) (lv' := [(0, .ref (ob0 0)), (1, .ref (ob0 8)), (2, .int (o70.1)), (3, .int x3), (4, .int v48), (5, .int (o70.2.1))]) rfl rfl ?_
                refine x_iload_n F d_Md_follow_167 2 rfl rfl ?_
                refine x_if_eq F 174 d_Md_follow_168 (by decide) (fun c75 => ?_) (fun c75 => ?_)
                · replace hm := xm_t hm c75
                  refine x_iinc (v := (x3 + 1)) (lv' := [(3, .int (x3 + 1)), (0, .ref (ob0 0)), (1, .ref (ob0 8)), (2, .int (o70.1)), (4, .int v48), (5, .int (o70.2.1))]) F d_Md_follow_174 3 rfl rfl (by decide) rfl ?_
                  refine x_goto F 33 d_Md_follow_177 (by decide) ?_
                  refine x_sub [0, 1, 2, 3, 4, 5, 6, 7, 8, 9, 10, 11, 12, 13, 14, 15, 16, 17, 18, 19, 20] (by decide) ?_ (x_lv [1, 2, 3, 0] ?_ (ih (o70.1) (x3 + 1) (o70.2.2) ad74 _ _ out k72 hm (by omega) (by omega) (fun e he ad => x_cs (by omega) (by omega) (KX e he ad)) (fun r hr ad pc lv hn hd => x_cs (by omega) (by omega) (KR r hr ad pc lv hn hd))))
                  · rfl
                  · rfl
                · replace hm := xm_f hm c75
                  refine x_goto F 180 d_Md_follow_171 (by decide) ?_
                  replace hm := xm_p_some hm
                  obtain ⟨eo, c_o, d_o⟩ := hm
                  refine x_sub [0, 1, 2, 3, 4, 5, 6, 7, 8, 9, 10, 11, 12, 13, 14, 15, 16, 17, 18, 19, 20] (by decide) ?_ (x_lv [0, 1, 2, 3] ?_ (x_cs (by omega) (by omega) (KX _ eo ad74)))
                  · rfl
                  · rfl
            · replace hm := xm_t hm c55
              refine x_iconst (v := (0 : Int32)) F d_Md_follow_98 (by decide) ?_
              replace hm := xm_p_some hm
              obtain ⟨eo, c_o, d_o⟩ := hm
              refine x_sub [0, 1, 2, 3, 4, 5, 6, 7, 8, 9, 10, 11, 12, 13, 14, 15, 16, 17, 18, 19, 20] (by decide) ?_ (x_cs (by omega) (by omega) (KR _ eo ad0 _ _ xz_0 d_Md_follow_99))
              rfl
          · replace hm := xm_t hm c49
            refine x_aload_n F d_Md_follow_76 1 rfl rfl ?_
            refine x_get F ck_Md hin_Md 0 8 rfl (by decide) kw_642 rfl rfl d_Md_follow_77 ?_
            refine x_aload_n F d_Md_follow_80 2 rfl rfl ?_
            refine x_iload_n F d_Md_follow_81 4 rfl rfl ?_
            replace hm := xm_rd_some hm
            obtain ⟨v76, e_v76, b_v76, hm⟩ := hm
            refine x_iald (x := (Md_trial s0)) F 8 rfl e_v76 b_v76 d_Md_follow_82 ?_
            refine x_iload_n F d_Md_follow_83 4 rfl rfl ?_
            replace hm := xm_wr_some hm
            obtain ⟨a77, e_a77, b_a77, hm⟩ := hm
            refine x_iast (x := (Md_shown s0)) (x' := a77) (ws' := [((ob0 0), .inr (8, [.ref (ob0 1), .ref (ob0 2), .ref (ob0 3), .ref (ob0 4), .ref (ob0 5), .ref (ob0 6), .ref (ob0 7), .ref (ob0 8), .ref (ob0 9), .int (Md_end s0), .int (Md_nodes s0), .ref (ob0 10), .ref (ob0 11), .int (Md_fields s0), .ref (ob0 12), .ref (ob0 13), .int (Md_pushed s0), .ref (ob0 14), .int (Md_touches s0), .ref (ob0 15), .ref (ob0 16), .ref (ob0 17), .ref (ob0 18), .ref (ad0 0), .ref (ad0 1), .int (Md_length s0)])), ((ob0 1), .inl (cA 1, (Md_kinds s0).1, .inl (Md_kinds s0).2)), ((ob0 2), .inl (cA 0, (Md_values s0).1, .inl (Md_values s0).2)), ((ob0 3), .inl (cA 0, (Md_firsts s0).1, .inl (Md_firsts s0).2)), ((ob0 4), .inl (cA 0, (Md_manies s0).1, .inl (Md_manies s0).2)), ((ob0 5), .inl (cA 2, (Md_said s0).1, .inl (Md_said s0).2)), ((ob0 6), .inl (cA 2, (Md_marked s0).1, .inl (Md_marked s0).2)), ((ob0 7), .inl (cA 0, (Md_leaders s0).1, .inl (Md_leaders s0).2)), ((ob0 8), .inl (cA 0, (Md_trial s0).1, .inl (Md_trial s0).2)), ((ob0 9), .inl (cA 0, a77.1, .inl a77.2)), ((ob0 10), .inl (cA 0, (Md_features s0).1, .inl (Md_features s0).2)), ((ob0 11), .inl (cA 0, (Md_parts s0).1, .inl (Md_parts s0).2)), ((ob0 12), .inl (cA 0, (Md_pushedFeatures s0).1, .inl (Md_pushedFeatures s0).2)), ((ob0 13), .inl (cA 0, (Md_pushedParts s0).1, .inl (Md_pushedParts s0).2)), ((ob0 14), .inl (cA 0, (Md_touched s0).1, .inl (Md_touched s0).2)), ((ob0 15), .inl (cA 0, (Md_reached s0).1, .inl (Md_reached s0).2)), ((ob0 16), .inl (cA 0, (Md_blocks s0).1, .inl (Md_blocks s0).2)), ((ob0 17), .inl (cA 0, (Md_newBlocks s0).1, .inl (Md_newBlocks s0).2)), ((ob0 18), .inl (cA 0, (Md_places s0).1, .inl (Md_places s0).2)), ((ad0 0), .inl (cA 0, (Md_written s0).1, .inl (Md_written s0).2)), ((ad0 1), .inl (cA 0, (Md_other s0).1, .inl (Md_other s0).2))]) F 9 rfl e_a77 b_a77 rfl d_Md_follow_84 ?_
            refine x_goto F 167 d_Md_follow_85 (by decide) ?_
            refine x_iload_n F d_Md_follow_167 3 rfl rfl ?_
            refine x_if_eq F 174 d_Md_follow_168 (by decide) (fun c78 => ?_) (fun c78 => ?_)
            · replace hm := xm_t hm c78
              refine x_iinc (v := (x3 + 1)) (lv' := [(3, .int (x3 + 1)), (4, .int v48), (0, .ref (ob0 0)), (1, .ref (ob0 8)), (2, .int x2)]) F d_Md_follow_174 4 rfl rfl (by decide) rfl ?_
              refine x_goto F 33 d_Md_follow_177 (by decide) ?_
              refine x_sub [0, 1, 2, 3, 4, 5, 6, 7, 8, 9, 10, 11, 12, 13, 14, 15, 16, 17, 18, 19, 20] (by decide) ?_ (x_lv [2, 3, 4, 0] ?_ (ih x2 (x3 + 1) ((Md_kinds s0), (Md_values s0), (Md_firsts s0), (Md_manies s0), (Md_said s0), (Md_marked s0), (Md_leaders s0), (Md_trial s0), a77, (Md_end s0), (Md_nodes s0), (Md_features s0), (Md_parts s0), (Md_fields s0), (Md_pushedFeatures s0), (Md_pushedParts s0), (Md_pushed s0), (Md_touched s0), (Md_touches s0), (Md_reached s0), (Md_blocks s0), (Md_newBlocks s0), (Md_places s0), (Md_written s0), (Md_other s0), (Md_length s0)) ad0 _ _ out k hm (by omega) (by omega) (fun e he ad => x_cs (by omega) (by omega) (KX e he ad)) (fun r hr ad pc lv hn hd => x_cs (by omega) (by omega) (KR r hr ad pc lv hn hd))))
              · rfl
              · rfl
            · replace hm := xm_f hm c78
              refine x_goto F 180 d_Md_follow_171 (by decide) ?_
              replace hm := xm_p_some hm
              obtain ⟨eo, c_o, d_o⟩ := hm
              refine x_sub [0, 1, 2, 3, 4, 5, 6, 7, 8, 9, 10, 11, 12, 13, 14, 15, 16, 17, 18, 19, 20] (by decide) ?_ (x_lv [1, 2, 3, 4] ?_ (x_cs (by omega) (by omega) (KX _ eo ad0)))
              · rfl
              · rfl
set_option maxHeartbeats 4000000 in
set_option maxRecDepth 100000 in
theorem wl_Md_follow_2 {X : XT} {l : Launch} {D : va_G} {cA : Nat → ClassId} {mc ms : Nat} (F : XF X l D cA b_Md_follow 6 (some FieldType.boolean) R_Md 1 26 mc ms) (n : Nat) (ob0 : Nat → Nat)    : ∀ (i : Nat) (x2 : Int32) (s0 : S_Md) (ad0 : Nat → Nat) (nc ns : Nat) (out : (Int32 × S_Md) ⊕ (Int32 × S_Md)) (k : KC), L_Md_follow_2  n i x2 s0 = some (out, k) → nc + k.1 ≤ mc → ns + k.2 ≤ ms → (∀ e : Int32 × S_Md, out = Sum.inl e → ∀ ad : Nat → Nat, XW X 6 ((w_Md cA ob0 ad  (e.2))) (nc + k.1) (ns + k.2) 183 [(0, .ref (ob0 0)), (1, .ref (ob0 8)), (2, .int (e.1))] []) → (∀ r : Int32 × S_Md, out = Sum.inr r → ∀ (ad : Nat → Nat) (pc : Nat) (lv : List (Nat × Value)), narrow .boolean (.int (r.1)) = .int (r.1) → decode b_Md_follow pc = .ok (.ireturn, 1) → XW X 6 ((w_Md cA ob0 ad  (r.2))) (nc + k.1) (ns + k.2) pc lv [.int (r.1)]) → XW X 6 ((w_Md cA ob0 ad0  s0)) nc ns 2 [(0, .ref (ob0 0)), (1, .ref (ob0 8)), (2, .int x2)] [] := by
  intro i
  induction i with
  | zero =>
    intro x2 s0 ad0 nc ns out k hm
    replace hm : (none : MO ((Int32 × S_Md) ⊕ (Int32 × S_Md))) = some (out, k) := hm
    cases hm
  | succ i ih =>
    intro x2 s0 ad0 nc ns out k hm hc hs KX KR
    rw [L_Md_follow_2_s] at hm
    refine x_ws (ws' := [((ob0 0), .inr (8, [.ref (ob0 1), .ref (ob0 2), .ref (ob0 3), .ref (ob0 4), .ref (ob0 5), .ref (ob0 6), .ref (ob0 7), .ref (ob0 8), .ref (ob0 9), .int (Md_end s0), .int (Md_nodes s0), .ref (ob0 10), .ref (ob0 11), .int (Md_fields s0), .ref (ob0 12), .ref (ob0 13), .int (Md_pushed s0), .ref (ob0 14), .int (Md_touches s0), .ref (ob0 15), .ref (ob0 16), .ref (ob0 17), .ref (ob0 18), .ref (ad0 0), .ref (ad0 1), .int (Md_length s0)])), ((ob0 1), .inl (cA 1, (Md_kinds s0).1, .inl (Md_kinds s0).2)), ((ob0 2), .inl (cA 0, (Md_values s0).1, .inl (Md_values s0).2)), ((ob0 3), .inl (cA 0, (Md_firsts s0).1, .inl (Md_firsts s0).2)), ((ob0 4), .inl (cA 0, (Md_manies s0).1, .inl (Md_manies s0).2)), ((ob0 5), .inl (cA 2, (Md_said s0).1, .inl (Md_said s0).2)), ((ob0 6), .inl (cA 2, (Md_marked s0).1, .inl (Md_marked s0).2)), ((ob0 7), .inl (cA 0, (Md_leaders s0).1, .inl (Md_leaders s0).2)), ((ob0 8), .inl (cA 0, (Md_trial s0).1, .inl (Md_trial s0).2)), ((ob0 9), .inl (cA 0, (Md_shown s0).1, .inl (Md_shown s0).2)), ((ob0 10), .inl (cA 0, (Md_features s0).1, .inl (Md_features s0).2)), ((ob0 11), .inl (cA 0, (Md_parts s0).1, .inl (Md_parts s0).2)), ((ob0 12), .inl (cA 0, (Md_pushedFeatures s0).1, .inl (Md_pushedFeatures s0).2)), ((ob0 13), .inl (cA 0, (Md_pushedParts s0).1, .inl (Md_pushedParts s0).2)), ((ob0 14), .inl (cA 0, (Md_touched s0).1, .inl (Md_touched s0).2)), ((ob0 15), .inl (cA 0, (Md_reached s0).1, .inl (Md_reached s0).2)), ((ob0 16), .inl (cA 0, (Md_blocks s0).1, .inl (Md_blocks s0).2)), ((ob0 17), .inl (cA 0, (Md_newBlocks s0).1, .inl (Md_newBlocks s0).2)), ((ob0 18), .inl (cA 0, (Md_places s0).1, .inl (Md_places s0).2)), ((ad0 0), .inl (cA 0, (Md_written s0).1, .inl (Md_written s0).2)), ((ad0 1), .inl (cA 0, (Md_other s0).1, .inl (Md_other s0).2))]) rfl ?_
    refine x_iload_n F d_Md_follow_2 2 rfl rfl ?_
    refine x_if_eq F 183 d_Md_follow_3 (by decide) (fun c34 => ?_) (fun c34 => ?_)
    · replace hm := xm_t hm c34
      replace hm := xm_p_some hm
      obtain ⟨eo, c_o, d_o⟩ := hm
      refine x_sub [0, 1, 2, 3, 4, 5, 6, 7, 8, 9, 10, 11, 12, 13, 14, 15, 16, 17, 18, 19, 20] (by decide) ?_ (x_lv [0, 1, 2] ?_ (x_cs (by omega) (by omega) (KX _ eo ad0)))
      · rfl
      · rfl
    · replace hm := xm_f hm c34
      refine x_iconst (v := (0 : Int32)) F d_Md_follow_6 (by decide) ?_
      refine x_istore_n (lv' := [(2, .int (0 : Int32)), (0, .ref (ob0 0)), (1, .ref (ob0 8))]) F d_Md_follow_7 rfl (by decide) rfl ?_
      refine x_iconst (v := (0 : Int32)) F d_Md_follow_8 (by decide) ?_
      refine x_istore_n (lv' := [(3, .int (0 : Int32)), (2, .int (0 : Int32)), (0, .ref (ob0 0)), (1, .ref (ob0 8))]) F d_Md_follow_9 rfl (by decide) rfl ?_
      replace hm := xm_b_some hm
      obtain ⟨o37, k38, k39, h40, hm, c_o37, d_o37⟩ := hm
      refine x_sub [0, 1, 2, 3, 4, 5, 6, 7, 8, 9, 10, 11, 12, 13, 14, 15, 16, 17, 18, 19, 20] (by decide) ?_ (x_lv [2, 3, 1, 0] ?_ (wl_Md_follow_10 F n ob0 (0 : Int32)  n (0 : Int32) s0 ad0 _ _ o37 k38 h40 (by omega) (by omega) (fun ad41 => ?_)))
      · rfl
      · rfl
      refine x_nf2 (ws' := [((ob0 0), .inr (8, [.ref (ob0 1), .ref (ob0 2), .ref (ob0 3), .ref (ob0 4), .ref (ob0 5), .ref (ob0 6), .ref (ob0 7), .ref (ob0 8), .ref (ob0 9), .int (Md_end (o37.2)), .int (Md_nodes (o37.2)), .ref (ob0 10), .ref (ob0 11), .int (Md_fields (o37.2)), .ref (ob0 12), .ref (ob0 13), .int (Md_pushed (o37.2)), .ref (ob0 14), .int (Md_touches (o37.2)), .ref (ob0 15), .ref (ob0 16), .ref (ob0 17), .ref (ob0 18), .ref (ad41 0), .ref (ad41 1), .int (Md_length (o37.2))])), ((ob0 1), .inl (cA 1, (Md_kinds (o37.2)).1, .inl (Md_kinds (o37.2)).2)), ((ob0 2), .inl (cA 0, (Md_values (o37.2)).1, .inl (Md_values (o37.2)).2)), ((ob0 3), .inl (cA 0, (Md_firsts (o37.2)).1, .inl (Md_firsts (o37.2)).2)), ((ob0 4), .inl (cA 0, (Md_manies (o37.2)).1, .inl (Md_manies (o37.2)).2)), ((ob0 5), .inl (cA 2, (Md_said (o37.2)).1, .inl (Md_said (o37.2)).2)), ((ob0 6), .inl (cA 2, (Md_marked (o37.2)).1, .inl (Md_marked (o37.2)).2)), ((ob0 7), .inl (cA 0, (Md_leaders (o37.2)).1, .inl (Md_leaders (o37.2)).2)), ((ob0 8), .inl (cA 0, (Md_trial (o37.2)).1, .inl (Md_trial (o37.2)).2)), ((ob0 9), .inl (cA 0, (Md_shown (o37.2)).1, .inl (Md_shown (o37.2)).2)), ((ob0 10), .inl (cA 0, (Md_features (o37.2)).1, .inl (Md_features (o37.2)).2)), ((ob0 11), .inl (cA 0, (Md_parts (o37.2)).1, .inl (Md_parts (o37.2)).2)), ((ob0 12), .inl (cA 0, (Md_pushedFeatures (o37.2)).1, .inl (Md_pushedFeatures (o37.2)).2)), ((ob0 13), .inl (cA 0, (Md_pushedParts (o37.2)).1, .inl (Md_pushedParts (o37.2)).2)), ((ob0 14), .inl (cA 0, (Md_touched (o37.2)).1, .inl (Md_touched (o37.2)).2)), ((ob0 15), .inl (cA 0, (Md_reached (o37.2)).1, .inl (Md_reached (o37.2)).2)), ((ob0 16), .inl (cA 0, (Md_blocks (o37.2)).1, .inl (Md_blocks (o37.2)).2)), ((ob0 17), .inl (cA 0, (Md_newBlocks (o37.2)).1, .inl (Md_newBlocks (o37.2)).2)), ((ob0 18), .inl (cA 0, (Md_places (o37.2)).1, .inl (Md_places (o37.2)).2)), ((ad41 0), .inl (cA 0, (Md_written (o37.2)).1, .inl (Md_written (o37.2)).2)), ((ad41 1), .inl (cA 0, (Md_other (o37.2)).1, .inl (Md_other (o37.2)).2))]) (lv' := [(0, .ref (ob0 0)), (1, .ref (ob0 8)), (2, .int (0 : Int32)), (3, .int (o37.1))]) rfl rfl ?_
      refine x_iconst (v := (0 : Int32)) F d_Md_follow_31 (by decide) ?_
      refine x_istore_n (lv' := [(3, .int (0 : Int32)), (0, .ref (ob0 0)), (1, .ref (ob0 8)), (2, .int (0 : Int32))]) F d_Md_follow_32 rfl (by decide) rfl ?_
      replace hm := xm_b_some hm
      obtain ⟨o79, k80, k81, h82, hm, c_o79, d_o79⟩ := hm
      refine x_sub [0, 1, 2, 3, 4, 5, 6, 7, 8, 9, 10, 11, 12, 13, 14, 15, 16, 17, 18, 19, 20] (by decide) ?_ (x_lv [1, 2, 3, 0] ?_ (wl_Md_follow_33 F n ob0   n (0 : Int32) (0 : Int32) (o37.2) ad41 _ _ o79 k80 h82 (by omega) (by omega) (fun e84 h86 ad83 => ?_) (fun r85 h86 ad83 pc lv hn hd => ?_)))
      · rfl
      · rfl
      · subst h86
        replace hm := xm_inl hm
        refine x_nf2 (ws' := [((ob0 0), .inr (8, [.ref (ob0 1), .ref (ob0 2), .ref (ob0 3), .ref (ob0 4), .ref (ob0 5), .ref (ob0 6), .ref (ob0 7), .ref (ob0 8), .ref (ob0 9), .int (Md_end (e84.2.2)), .int (Md_nodes (e84.2.2)), .ref (ob0 10), .ref (ob0 11), .int (Md_fields (e84.2.2)), .ref (ob0 12), .ref (ob0 13), .int (Md_pushed (e84.2.2)), .ref (ob0 14), .int (Md_touches (e84.2.2)), .ref (ob0 15), .ref (ob0 16), .ref (ob0 17), .ref (ob0 18), .ref (ad83 0), .ref (ad83 1), .int (Md_length (e84.2.2))])), ((ob0 1), .inl (cA 1, (Md_kinds (e84.2.2)).1, .inl (Md_kinds (e84.2.2)).2)), ((ob0 2), .inl (cA 0, (Md_values (e84.2.2)).1, .inl (Md_values (e84.2.2)).2)), ((ob0 3), .inl (cA 0, (Md_firsts (e84.2.2)).1, .inl (Md_firsts (e84.2.2)).2)), ((ob0 4), .inl (cA 0, (Md_manies (e84.2.2)).1, .inl (Md_manies (e84.2.2)).2)), ((ob0 5), .inl (cA 2, (Md_said (e84.2.2)).1, .inl (Md_said (e84.2.2)).2)), ((ob0 6), .inl (cA 2, (Md_marked (e84.2.2)).1, .inl (Md_marked (e84.2.2)).2)), ((ob0 7), .inl (cA 0, (Md_leaders (e84.2.2)).1, .inl (Md_leaders (e84.2.2)).2)), ((ob0 8), .inl (cA 0, (Md_trial (e84.2.2)).1, .inl (Md_trial (e84.2.2)).2)), ((ob0 9), .inl (cA 0, (Md_shown (e84.2.2)).1, .inl (Md_shown (e84.2.2)).2)), ((ob0 10), .inl (cA 0, (Md_features (e84.2.2)).1, .inl (Md_features (e84.2.2)).2)), ((ob0 11), .inl (cA 0, (Md_parts (e84.2.2)).1, .inl (Md_parts (e84.2.2)).2)), ((ob0 12), .inl (cA 0, (Md_pushedFeatures (e84.2.2)).1, .inl (Md_pushedFeatures (e84.2.2)).2)), ((ob0 13), .inl (cA 0, (Md_pushedParts (e84.2.2)).1, .inl (Md_pushedParts (e84.2.2)).2)), ((ob0 14), .inl (cA 0, (Md_touched (e84.2.2)).1, .inl (Md_touched (e84.2.2)).2)), ((ob0 15), .inl (cA 0, (Md_reached (e84.2.2)).1, .inl (Md_reached (e84.2.2)).2)), ((ob0 16), .inl (cA 0, (Md_blocks (e84.2.2)).1, .inl (Md_blocks (e84.2.2)).2)), ((ob0 17), .inl (cA 0, (Md_newBlocks (e84.2.2)).1, .inl (Md_newBlocks (e84.2.2)).2)), ((ob0 18), .inl (cA 0, (Md_places (e84.2.2)).1, .inl (Md_places (e84.2.2)).2)), ((ad83 0), .inl (cA 0, (Md_written (e84.2.2)).1, .inl (Md_written (e84.2.2)).2)), ((ad83 1), .inl (cA 0, (Md_other (e84.2.2)).1, .inl (Md_other (e84.2.2)).2))]) (lv' := [(0, .ref (ob0 0)), (1, .ref (ob0 8)), (2, .int (e84.1)), (3, .int (e84.2.1))]) rfl rfl ?_
        refine x_goto F 2 d_Md_follow_180 (by decide) ?_
        refine x_sub [0, 1, 2, 3, 4, 5, 6, 7, 8, 9, 10, 11, 12, 13, 14, 15, 16, 17, 18, 19, 20] (by decide) ?_ (x_lv [0, 1, 2] ?_ (ih (e84.1) (e84.2.2) ad83 _ _ out k81 hm (by omega) (by omega) (fun e he ad => x_cs (by omega) (by omega) (KX e he ad)) (fun r hr ad pc lv hn hd => x_cs (by omega) (by omega) (KR r hr ad pc lv hn hd))))
        · rfl
        · rfl
      · subst h86
        replace hm := xm_inr hm
        replace hm := xm_p_some hm
        obtain ⟨eo, c_o, d_o⟩ := hm
        exact x_cs (by omega) (by omega) (KR _ eo ad83 _ _ hn hd)
set_option maxHeartbeats 4000000 in
set_option maxRecDepth 100000 in
theorem c_Md_follow (l : Launch) (D : va_G) (cA : Nat → ClassId) (n : Nat) (ob0 ad0 : Nat → Nat) (s0 : S_Md)  (out : Int32 × S_Md) (k : KC) (hm : m_Md_follow n s0  = some (out, k)) : XM l D cA y_Md_follow b_Md_follow 6 (some FieldType.boolean) 1 26 [.ref (ob0 0), .ref (ob0 8)] ((w_Md cA ob0 ad0  s0)) k (fun _ => some (.int (out.1))) (fun ad => (w_Md cA ob0 ad  (out.2))) := by
  refine x_met (cc := b_Md_follow) (nL := 6) (ret := (some FieldType.boolean)) R_Md (by decide) (Nat.le_of_ble_eq_true rfl) rfl (fun X F I E => ?_)
  unfold m_Md_follow at hm
  refine x_nf2 (ws' := [((ob0 0), .inr (8, [.ref (ob0 1), .ref (ob0 2), .ref (ob0 3), .ref (ob0 4), .ref (ob0 5), .ref (ob0 6), .ref (ob0 7), .ref (ob0 8), .ref (ob0 9), .int (Md_end s0), .int (Md_nodes s0), .ref (ob0 10), .ref (ob0 11), .int (Md_fields s0), .ref (ob0 12), .ref (ob0 13), .int (Md_pushed s0), .ref (ob0 14), .int (Md_touches s0), .ref (ob0 15), .ref (ob0 16), .ref (ob0 17), .ref (ob0 18), .ref (ad0 0), .ref (ad0 1), .int (Md_length s0)])), ((ob0 1), .inl (cA 1, (Md_kinds s0).1, .inl (Md_kinds s0).2)), ((ob0 2), .inl (cA 0, (Md_values s0).1, .inl (Md_values s0).2)), ((ob0 3), .inl (cA 0, (Md_firsts s0).1, .inl (Md_firsts s0).2)), ((ob0 4), .inl (cA 0, (Md_manies s0).1, .inl (Md_manies s0).2)), ((ob0 5), .inl (cA 2, (Md_said s0).1, .inl (Md_said s0).2)), ((ob0 6), .inl (cA 2, (Md_marked s0).1, .inl (Md_marked s0).2)), ((ob0 7), .inl (cA 0, (Md_leaders s0).1, .inl (Md_leaders s0).2)), ((ob0 8), .inl (cA 0, (Md_trial s0).1, .inl (Md_trial s0).2)), ((ob0 9), .inl (cA 0, (Md_shown s0).1, .inl (Md_shown s0).2)), ((ob0 10), .inl (cA 0, (Md_features s0).1, .inl (Md_features s0).2)), ((ob0 11), .inl (cA 0, (Md_parts s0).1, .inl (Md_parts s0).2)), ((ob0 12), .inl (cA 0, (Md_pushedFeatures s0).1, .inl (Md_pushedFeatures s0).2)), ((ob0 13), .inl (cA 0, (Md_pushedParts s0).1, .inl (Md_pushedParts s0).2)), ((ob0 14), .inl (cA 0, (Md_touched s0).1, .inl (Md_touched s0).2)), ((ob0 15), .inl (cA 0, (Md_reached s0).1, .inl (Md_reached s0).2)), ((ob0 16), .inl (cA 0, (Md_blocks s0).1, .inl (Md_blocks s0).2)), ((ob0 17), .inl (cA 0, (Md_newBlocks s0).1, .inl (Md_newBlocks s0).2)), ((ob0 18), .inl (cA 0, (Md_places s0).1, .inl (Md_places s0).2)), ((ad0 0), .inl (cA 0, (Md_written s0).1, .inl (Md_written s0).2)), ((ad0 1), .inl (cA 0, (Md_other s0).1, .inl (Md_other s0).2))]) (lv' := [(0, .ref (ob0 0)), (1, .ref (ob0 8))]) rfl rfl ?_
  refine x_iconst (v := (1 : Int32)) F d_Md_follow_0 (by decide) ?_
  refine x_istore_n (lv' := [(2, .int (1 : Int32)), (0, .ref (ob0 0)), (1, .ref (ob0 8))]) F d_Md_follow_1 rfl (by decide) rfl ?_
  replace hm := xm_b_some hm
  obtain ⟨o87, k88, k89, h90, hm, c_o87, d_o87⟩ := hm
  refine x_sub [0, 1, 2, 3, 4, 5, 6, 7, 8, 9, 10, 11, 12, 13, 14, 15, 16, 17, 18, 19, 20] (by decide) ?_ (x_lv [1, 2, 0] ?_ (wl_Md_follow_2 F n ob0   n (1 : Int32) s0 ad0 _ _ o87 k88 h90 (by omega) (by omega) (fun e92 h94 ad91 => ?_) (fun r93 h94 ad91 pc lv hn hd => ?_)))
  · rfl
  · rfl
  · subst h94
    replace hm := xm_inl hm
    refine x_nf2 (ws' := [((ob0 0), .inr (8, [.ref (ob0 1), .ref (ob0 2), .ref (ob0 3), .ref (ob0 4), .ref (ob0 5), .ref (ob0 6), .ref (ob0 7), .ref (ob0 8), .ref (ob0 9), .int (Md_end (e92.2)), .int (Md_nodes (e92.2)), .ref (ob0 10), .ref (ob0 11), .int (Md_fields (e92.2)), .ref (ob0 12), .ref (ob0 13), .int (Md_pushed (e92.2)), .ref (ob0 14), .int (Md_touches (e92.2)), .ref (ob0 15), .ref (ob0 16), .ref (ob0 17), .ref (ob0 18), .ref (ad91 0), .ref (ad91 1), .int (Md_length (e92.2))])), ((ob0 1), .inl (cA 1, (Md_kinds (e92.2)).1, .inl (Md_kinds (e92.2)).2)), ((ob0 2), .inl (cA 0, (Md_values (e92.2)).1, .inl (Md_values (e92.2)).2)), ((ob0 3), .inl (cA 0, (Md_firsts (e92.2)).1, .inl (Md_firsts (e92.2)).2)), ((ob0 4), .inl (cA 0, (Md_manies (e92.2)).1, .inl (Md_manies (e92.2)).2)), ((ob0 5), .inl (cA 2, (Md_said (e92.2)).1, .inl (Md_said (e92.2)).2)), ((ob0 6), .inl (cA 2, (Md_marked (e92.2)).1, .inl (Md_marked (e92.2)).2)), ((ob0 7), .inl (cA 0, (Md_leaders (e92.2)).1, .inl (Md_leaders (e92.2)).2)), ((ob0 8), .inl (cA 0, (Md_trial (e92.2)).1, .inl (Md_trial (e92.2)).2)), ((ob0 9), .inl (cA 0, (Md_shown (e92.2)).1, .inl (Md_shown (e92.2)).2)), ((ob0 10), .inl (cA 0, (Md_features (e92.2)).1, .inl (Md_features (e92.2)).2)), ((ob0 11), .inl (cA 0, (Md_parts (e92.2)).1, .inl (Md_parts (e92.2)).2)), ((ob0 12), .inl (cA 0, (Md_pushedFeatures (e92.2)).1, .inl (Md_pushedFeatures (e92.2)).2)), ((ob0 13), .inl (cA 0, (Md_pushedParts (e92.2)).1, .inl (Md_pushedParts (e92.2)).2)), ((ob0 14), .inl (cA 0, (Md_touched (e92.2)).1, .inl (Md_touched (e92.2)).2)), ((ob0 15), .inl (cA 0, (Md_reached (e92.2)).1, .inl (Md_reached (e92.2)).2)), ((ob0 16), .inl (cA 0, (Md_blocks (e92.2)).1, .inl (Md_blocks (e92.2)).2)), ((ob0 17), .inl (cA 0, (Md_newBlocks (e92.2)).1, .inl (Md_newBlocks (e92.2)).2)), ((ob0 18), .inl (cA 0, (Md_places (e92.2)).1, .inl (Md_places (e92.2)).2)), ((ad91 0), .inl (cA 0, (Md_written (e92.2)).1, .inl (Md_written (e92.2)).2)), ((ad91 1), .inl (cA 0, (Md_other (e92.2)).1, .inl (Md_other (e92.2)).2))]) (lv' := [(0, .ref (ob0 0)), (1, .ref (ob0 8)), (2, .int (e92.1))]) rfl rfl ?_
    refine x_iconst (v := (1 : Int32)) F d_Md_follow_183 (by decide) ?_
    replace hm := xm_p_some hm
    obtain ⟨eo, c_o, d_o⟩ := hm
    subst eo
    refine x_sub [0, 1, 2, 3, 4, 5, 6, 7, 8, 9, 10, 11, 12, 13, 14, 15, 16, 17, 18, 19, 20] (by decide) ?_ (xe_i E ad91 (by omega) (by omega) rfl xz_1 d_Md_follow_184)
    rfl
  · subst h94
    replace hm := xm_inr hm
    replace hm := xm_p_some hm
    obtain ⟨eo, c_o, d_o⟩ := hm
    subst eo
    exact xe_i E ad91 (by omega) (by omega) rfl hn hd

noncomputable def m_Md_suppose (n : Nat) (s0 : S_Md) (p0 : Int32) (p1 : Int32) : MO (Int32 × S_Md) := (xm_cp (Md_leaders s0) (Md_trial s0) (0 : Int32) (0 : Int32) (Md_end s0) (fun a14 => (xm_b (m_Md_join n ((Md_kinds s0), (Md_values s0), (Md_firsts s0), (Md_manies s0), (Md_said s0), (Md_marked s0), (Md_leaders s0), a14, (Md_shown s0), (Md_end s0), (Md_nodes s0), (Md_features s0), (Md_parts s0), (Md_fields s0), (Md_pushedFeatures s0), (Md_pushedParts s0), (Md_pushed s0), (Md_touched s0), (Md_touches s0), (Md_reached s0), (Md_blocks s0), (Md_newBlocks s0), (Md_places s0), (Md_written s0), (Md_other s0), (Md_length s0)) p0 p1) (fun o15 => (if (o15.1) = 0 then (xm_p ((1 : Int32), (o15.2))) else (xm_b (m_Md_follow n (o15.2)) (fun o21 => (if (o21.1) = 0 then (xm_p ((0 : Int32), (o21.2))) else (xm_p ((1 : Int32), (o21.2)))))))))))
set_option maxHeartbeats 4000000 in
set_option maxRecDepth 100000 in
theorem c_Md_suppose (l : Launch) (D : va_G) (cA : Nat → ClassId) (n : Nat) (ob0 ad0 : Nat → Nat) (s0 : S_Md) (p0 : Int32) (p1 : Int32) (out : Int32 × S_Md) (k : KC) (hm : m_Md_suppose n s0 p0 p1 = some (out, k)) : XM l D cA y_Md_suppose b_Md_suppose 3 (some FieldType.boolean) 2 64 [.ref (ob0 0), .int p0, .int p1] ((w_Md cA ob0 ad0  s0)) k (fun _ => some (.int (out.1))) (fun ad => (w_Md cA ob0 ad  (out.2))) := by
  refine x_met (cc := b_Md_suppose) (nL := 3) (ret := (some FieldType.boolean)) R_Md (by decide) (Nat.le_of_ble_eq_true rfl) rfl (fun X F I E => ?_)
  unfold m_Md_suppose at hm
  refine x_nf2 (ws' := [((ob0 0), .inr (8, [.ref (ob0 1), .ref (ob0 2), .ref (ob0 3), .ref (ob0 4), .ref (ob0 5), .ref (ob0 6), .ref (ob0 7), .ref (ob0 8), .ref (ob0 9), .int (Md_end s0), .int (Md_nodes s0), .ref (ob0 10), .ref (ob0 11), .int (Md_fields s0), .ref (ob0 12), .ref (ob0 13), .int (Md_pushed s0), .ref (ob0 14), .int (Md_touches s0), .ref (ob0 15), .ref (ob0 16), .ref (ob0 17), .ref (ob0 18), .ref (ad0 0), .ref (ad0 1), .int (Md_length s0)])), ((ob0 1), .inl (cA 1, (Md_kinds s0).1, .inl (Md_kinds s0).2)), ((ob0 2), .inl (cA 0, (Md_values s0).1, .inl (Md_values s0).2)), ((ob0 3), .inl (cA 0, (Md_firsts s0).1, .inl (Md_firsts s0).2)), ((ob0 4), .inl (cA 0, (Md_manies s0).1, .inl (Md_manies s0).2)), ((ob0 5), .inl (cA 2, (Md_said s0).1, .inl (Md_said s0).2)), ((ob0 6), .inl (cA 2, (Md_marked s0).1, .inl (Md_marked s0).2)), ((ob0 7), .inl (cA 0, (Md_leaders s0).1, .inl (Md_leaders s0).2)), ((ob0 8), .inl (cA 0, (Md_trial s0).1, .inl (Md_trial s0).2)), ((ob0 9), .inl (cA 0, (Md_shown s0).1, .inl (Md_shown s0).2)), ((ob0 10), .inl (cA 0, (Md_features s0).1, .inl (Md_features s0).2)), ((ob0 11), .inl (cA 0, (Md_parts s0).1, .inl (Md_parts s0).2)), ((ob0 12), .inl (cA 0, (Md_pushedFeatures s0).1, .inl (Md_pushedFeatures s0).2)), ((ob0 13), .inl (cA 0, (Md_pushedParts s0).1, .inl (Md_pushedParts s0).2)), ((ob0 14), .inl (cA 0, (Md_touched s0).1, .inl (Md_touched s0).2)), ((ob0 15), .inl (cA 0, (Md_reached s0).1, .inl (Md_reached s0).2)), ((ob0 16), .inl (cA 0, (Md_blocks s0).1, .inl (Md_blocks s0).2)), ((ob0 17), .inl (cA 0, (Md_newBlocks s0).1, .inl (Md_newBlocks s0).2)), ((ob0 18), .inl (cA 0, (Md_places s0).1, .inl (Md_places s0).2)), ((ad0 0), .inl (cA 0, (Md_written s0).1, .inl (Md_written s0).2)), ((ad0 1), .inl (cA 0, (Md_other s0).1, .inl (Md_other s0).2))]) (lv' := [(0, .ref (ob0 0)), (1, .int p0), (2, .int p1)]) rfl rfl ?_
  refine x_aload_n F d_Md_suppose_0 0 rfl rfl ?_
  refine x_get F ck_Md hin_Md 0 6 rfl (by decide) kw_640 rfl rfl d_Md_suppose_1 ?_
  refine x_iconst (v := (0 : Int32)) F d_Md_suppose_4 (by decide) ?_
  refine x_aload_n F d_Md_suppose_5 0 rfl rfl ?_
  refine x_get F ck_Md hin_Md 0 7 rfl (by decide) kw_641 rfl rfl d_Md_suppose_6 ?_
  refine x_iconst (v := (0 : Int32)) F d_Md_suppose_9 (by decide) ?_
  refine x_aload_n F d_Md_suppose_10 0 rfl rfl ?_
  refine x_get F ck_Md hin_Md 0 9 rfl (by decide) kw_643 rfl rfl d_Md_suppose_11 ?_
  replace hm := xm_cp_some hm
  obtain ⟨a14, e_a14, b_a14, hm⟩ := hm
  refine x_copy (x := (Md_leaders s0)) (y := (Md_trial s0)) (y' := a14) (ws' := [((ob0 0), .inr (8, [.ref (ob0 1), .ref (ob0 2), .ref (ob0 3), .ref (ob0 4), .ref (ob0 5), .ref (ob0 6), .ref (ob0 7), .ref (ob0 8), .ref (ob0 9), .int (Md_end s0), .int (Md_nodes s0), .ref (ob0 10), .ref (ob0 11), .int (Md_fields s0), .ref (ob0 12), .ref (ob0 13), .int (Md_pushed s0), .ref (ob0 14), .int (Md_touches s0), .ref (ob0 15), .ref (ob0 16), .ref (ob0 17), .ref (ob0 18), .ref (ad0 0), .ref (ad0 1), .int (Md_length s0)])), ((ob0 1), .inl (cA 1, (Md_kinds s0).1, .inl (Md_kinds s0).2)), ((ob0 2), .inl (cA 0, (Md_values s0).1, .inl (Md_values s0).2)), ((ob0 3), .inl (cA 0, (Md_firsts s0).1, .inl (Md_firsts s0).2)), ((ob0 4), .inl (cA 0, (Md_manies s0).1, .inl (Md_manies s0).2)), ((ob0 5), .inl (cA 2, (Md_said s0).1, .inl (Md_said s0).2)), ((ob0 6), .inl (cA 2, (Md_marked s0).1, .inl (Md_marked s0).2)), ((ob0 7), .inl (cA 0, (Md_leaders s0).1, .inl (Md_leaders s0).2)), ((ob0 8), .inl (cA 0, a14.1, .inl a14.2)), ((ob0 9), .inl (cA 0, (Md_shown s0).1, .inl (Md_shown s0).2)), ((ob0 10), .inl (cA 0, (Md_features s0).1, .inl (Md_features s0).2)), ((ob0 11), .inl (cA 0, (Md_parts s0).1, .inl (Md_parts s0).2)), ((ob0 12), .inl (cA 0, (Md_pushedFeatures s0).1, .inl (Md_pushedFeatures s0).2)), ((ob0 13), .inl (cA 0, (Md_pushedParts s0).1, .inl (Md_pushedParts s0).2)), ((ob0 14), .inl (cA 0, (Md_touched s0).1, .inl (Md_touched s0).2)), ((ob0 15), .inl (cA 0, (Md_reached s0).1, .inl (Md_reached s0).2)), ((ob0 16), .inl (cA 0, (Md_blocks s0).1, .inl (Md_blocks s0).2)), ((ob0 17), .inl (cA 0, (Md_newBlocks s0).1, .inl (Md_newBlocks s0).2)), ((ob0 18), .inl (cA 0, (Md_places s0).1, .inl (Md_places s0).2)), ((ad0 0), .inl (cA 0, (Md_written s0).1, .inl (Md_written s0).2)), ((ad0 1), .inl (cA 0, (Md_other s0).1, .inl (Md_other s0).2))]) F kt_766_28 kt_332_4 kt_331_5 kw_50 7 8 rfl rfl b_a14 e_a14 rfl (by decide) (Nat.le_of_ble_eq_true rfl) d_Md_suppose_14 ?_
  refine x_aload_n F d_Md_suppose_17 0 rfl rfl ?_
  refine x_aload_n F d_Md_suppose_18 0 rfl rfl ?_
  refine x_get F ck_Md hin_Md 0 7 rfl (by decide) kw_641 rfl rfl d_Md_suppose_19 ?_
  refine x_iload_n F d_Md_suppose_22 1 rfl rfl ?_
  refine x_iload_n F d_Md_suppose_23 2 rfl rfl ?_
  replace hm := xm_b_some hm
  obtain ⟨o15, k16, k17, h18, hm, c_o15, d_o15⟩ := hm
  refine x_callV (n := 3) (C := R_Md) (wr := []) F (c_Md_join l D cA n ob0 ad0 ((Md_kinds s0), (Md_values s0), (Md_firsts s0), (Md_manies s0), (Md_said s0), (Md_marked s0), (Md_leaders s0), a14, (Md_shown s0), (Md_end s0), (Md_nodes s0), (Md_features s0), (Md_parts s0), (Md_fields s0), (Md_pushedFeatures s0), (Md_pushedParts s0), (Md_pushed s0), (Md_touched s0), (Md_touches s0), (Md_reached s0), (Md_blocks s0), (Md_newBlocks s0), (Md_places s0), (Md_written s0), (Md_other s0), (Md_length s0)) p0 p1 o15 k16 h18) kw_770 kw_767 kw_769 kw_23 kw_47 ⟨rfl, by decide, by decide, by decide +kernel⟩ rfl (by decide) (by decide) (ci := 8) rfl rfl 0 rfl [0, 1, 2, 3, 4, 5, 6, 7, 8, 9, 10, 11, 12, 13, 14, 15, 16, 17, 18, 19, 20] [] rfl rfl (by decide) (by decide) (by decide) rfl (Nat.le_of_ble_eq_true rfl) (by omega) (by omega) d_Md_suppose_24 (fun ad19 => ?_)
  refine x_nf (ws' := [((ob0 0), .inr (8, [.ref (ob0 1), .ref (ob0 2), .ref (ob0 3), .ref (ob0 4), .ref (ob0 5), .ref (ob0 6), .ref (ob0 7), .ref (ob0 8), .ref (ob0 9), .int (Md_end (o15.2)), .int (Md_nodes (o15.2)), .ref (ob0 10), .ref (ob0 11), .int (Md_fields (o15.2)), .ref (ob0 12), .ref (ob0 13), .int (Md_pushed (o15.2)), .ref (ob0 14), .int (Md_touches (o15.2)), .ref (ob0 15), .ref (ob0 16), .ref (ob0 17), .ref (ob0 18), .ref (ad19 0), .ref (ad19 1), .int (Md_length (o15.2))])), ((ob0 1), .inl (cA 1, (Md_kinds (o15.2)).1, .inl (Md_kinds (o15.2)).2)), ((ob0 2), .inl (cA 0, (Md_values (o15.2)).1, .inl (Md_values (o15.2)).2)), ((ob0 3), .inl (cA 0, (Md_firsts (o15.2)).1, .inl (Md_firsts (o15.2)).2)), ((ob0 4), .inl (cA 0, (Md_manies (o15.2)).1, .inl (Md_manies (o15.2)).2)), ((ob0 5), .inl (cA 2, (Md_said (o15.2)).1, .inl (Md_said (o15.2)).2)), ((ob0 6), .inl (cA 2, (Md_marked (o15.2)).1, .inl (Md_marked (o15.2)).2)), ((ob0 7), .inl (cA 0, (Md_leaders (o15.2)).1, .inl (Md_leaders (o15.2)).2)), ((ob0 8), .inl (cA 0, (Md_trial (o15.2)).1, .inl (Md_trial (o15.2)).2)), ((ob0 9), .inl (cA 0, (Md_shown (o15.2)).1, .inl (Md_shown (o15.2)).2)), ((ob0 10), .inl (cA 0, (Md_features (o15.2)).1, .inl (Md_features (o15.2)).2)), ((ob0 11), .inl (cA 0, (Md_parts (o15.2)).1, .inl (Md_parts (o15.2)).2)), ((ob0 12), .inl (cA 0, (Md_pushedFeatures (o15.2)).1, .inl (Md_pushedFeatures (o15.2)).2)), ((ob0 13), .inl (cA 0, (Md_pushedParts (o15.2)).1, .inl (Md_pushedParts (o15.2)).2)), ((ob0 14), .inl (cA 0, (Md_touched (o15.2)).1, .inl (Md_touched (o15.2)).2)), ((ob0 15), .inl (cA 0, (Md_reached (o15.2)).1, .inl (Md_reached (o15.2)).2)), ((ob0 16), .inl (cA 0, (Md_blocks (o15.2)).1, .inl (Md_blocks (o15.2)).2)), ((ob0 17), .inl (cA 0, (Md_newBlocks (o15.2)).1, .inl (Md_newBlocks (o15.2)).2)), ((ob0 18), .inl (cA 0, (Md_places (o15.2)).1, .inl (Md_places (o15.2)).2)), ((ad19 0), .inl (cA 0, (Md_written (o15.2)).1, .inl (Md_written (o15.2)).2)), ((ad19 1), .inl (cA 0, (Md_other (o15.2)).1, .inl (Md_other (o15.2)).2))]) (st' := [.int (o15.1)]) rfl rfl ?_
  refine x_if_eq F 41 d_Md_suppose_27 (by decide) (fun c20 => ?_) (fun c20 => ?_)
  · replace hm := xm_t hm c20
    refine x_iconst (v := (1 : Int32)) F d_Md_suppose_41 (by decide) ?_
    refine x_goto F 46 d_Md_suppose_42 (by decide) ?_
    replace hm := xm_p_some hm
    obtain ⟨eo, c_o, d_o⟩ := hm
    subst eo
    refine x_sub [0, 1, 2, 3, 4, 5, 6, 7, 8, 9, 10, 11, 12, 13, 14, 15, 16, 17, 18, 19, 20] (by decide) ?_ (xe_i E ad19 (by omega) (by omega) rfl xz_1 d_Md_suppose_46)
    rfl
  · replace hm := xm_f hm c20
    refine x_aload_n F d_Md_suppose_30 0 rfl rfl ?_
    refine x_aload_n F d_Md_suppose_31 0 rfl rfl ?_
    refine x_get F ck_Md hin_Md 0 7 rfl (by decide) kw_641 rfl rfl d_Md_suppose_32 ?_
    replace hm := xm_b_some hm
    obtain ⟨o21, k22, k23, h24, hm, c_o21, d_o21⟩ := hm
    refine x_callV (n := 1) (C := R_Md) (wr := []) F (c_Md_follow l D cA n ob0 ad19 (o15.2)  o21 k22 h24) kw_774 kw_771 kw_773 kw_24 kw_47 ⟨rfl, by decide, by decide, by decide +kernel⟩ rfl (by decide) (by decide) (ci := 8) rfl rfl 0 rfl [0, 1, 2, 3, 4, 5, 6, 7, 8, 9, 10, 11, 12, 13, 14, 15, 16, 17, 18, 19, 20] [] rfl rfl (by decide) (by decide) (by decide) rfl (Nat.le_of_ble_eq_true rfl) (by omega) (by omega) d_Md_suppose_35 (fun ad25 => ?_)
    refine x_nf (ws' := [((ob0 0), .inr (8, [.ref (ob0 1), .ref (ob0 2), .ref (ob0 3), .ref (ob0 4), .ref (ob0 5), .ref (ob0 6), .ref (ob0 7), .ref (ob0 8), .ref (ob0 9), .int (Md_end (o21.2)), .int (Md_nodes (o21.2)), .ref (ob0 10), .ref (ob0 11), .int (Md_fields (o21.2)), .ref (ob0 12), .ref (ob0 13), .int (Md_pushed (o21.2)), .ref (ob0 14), .int (Md_touches (o21.2)), .ref (ob0 15), .ref (ob0 16), .ref (ob0 17), .ref (ob0 18), .ref (ad25 0), .ref (ad25 1), .int (Md_length (o21.2))])), ((ob0 1), .inl (cA 1, (Md_kinds (o21.2)).1, .inl (Md_kinds (o21.2)).2)), ((ob0 2), .inl (cA 0, (Md_values (o21.2)).1, .inl (Md_values (o21.2)).2)), ((ob0 3), .inl (cA 0, (Md_firsts (o21.2)).1, .inl (Md_firsts (o21.2)).2)), ((ob0 4), .inl (cA 0, (Md_manies (o21.2)).1, .inl (Md_manies (o21.2)).2)), ((ob0 5), .inl (cA 2, (Md_said (o21.2)).1, .inl (Md_said (o21.2)).2)), ((ob0 6), .inl (cA 2, (Md_marked (o21.2)).1, .inl (Md_marked (o21.2)).2)), ((ob0 7), .inl (cA 0, (Md_leaders (o21.2)).1, .inl (Md_leaders (o21.2)).2)), ((ob0 8), .inl (cA 0, (Md_trial (o21.2)).1, .inl (Md_trial (o21.2)).2)), ((ob0 9), .inl (cA 0, (Md_shown (o21.2)).1, .inl (Md_shown (o21.2)).2)), ((ob0 10), .inl (cA 0, (Md_features (o21.2)).1, .inl (Md_features (o21.2)).2)), ((ob0 11), .inl (cA 0, (Md_parts (o21.2)).1, .inl (Md_parts (o21.2)).2)), ((ob0 12), .inl (cA 0, (Md_pushedFeatures (o21.2)).1, .inl (Md_pushedFeatures (o21.2)).2)), ((ob0 13), .inl (cA 0, (Md_pushedParts (o21.2)).1, .inl (Md_pushedParts (o21.2)).2)), ((ob0 14), .inl (cA 0, (Md_touched (o21.2)).1, .inl (Md_touched (o21.2)).2)), ((ob0 15), .inl (cA 0, (Md_reached (o21.2)).1, .inl (Md_reached (o21.2)).2)), ((ob0 16), .inl (cA 0, (Md_blocks (o21.2)).1, .inl (Md_blocks (o21.2)).2)), ((ob0 17), .inl (cA 0, (Md_newBlocks (o21.2)).1, .inl (Md_newBlocks (o21.2)).2)), ((ob0 18), .inl (cA 0, (Md_places (o21.2)).1, .inl (Md_places (o21.2)).2)), ((ad25 0), .inl (cA 0, (Md_written (o21.2)).1, .inl (Md_written (o21.2)).2)), ((ad25 1), .inl (cA 0, (Md_other (o21.2)).1, .inl (Md_other (o21.2)).2))]) (st' := [.int (o21.1)]) rfl rfl ?_
    refine x_if_eq F 45 d_Md_suppose_38 (by decide) (fun c26 => ?_) (fun c26 => ?_)
    · replace hm := xm_t hm c26
      refine x_iconst (v := (0 : Int32)) F d_Md_suppose_45 (by decide) ?_
      replace hm := xm_p_some hm
      obtain ⟨eo, c_o, d_o⟩ := hm
      subst eo
      refine x_sub [0, 1, 2, 3, 4, 5, 6, 7, 8, 9, 10, 11, 12, 13, 14, 15, 16, 17, 18, 19, 20] (by decide) ?_ (xe_i E ad25 (by omega) (by omega) rfl xz_0 d_Md_suppose_46)
      rfl
    · replace hm := xm_f hm c26
      refine x_iconst (v := (1 : Int32)) F d_Md_suppose_41 (by decide) ?_
      refine x_goto F 46 d_Md_suppose_42 (by decide) ?_
      replace hm := xm_p_some hm
      obtain ⟨eo, c_o, d_o⟩ := hm
      subst eo
      refine x_sub [0, 1, 2, 3, 4, 5, 6, 7, 8, 9, 10, 11, 12, 13, 14, 15, 16, 17, 18, 19, 20] (by decide) ?_ (xe_i E ad25 (by omega) (by omega) rfl xz_1 d_Md_suppose_46)
      rfl
