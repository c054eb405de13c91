noncomputable def L_Md_clear_7 (y1 : Int32) (n i : Nat) : Int32 → S_Md → MO (Int32 × S_Md) := Nat.rec (motive := fun _ => Int32 → S_Md → MO (Int32 × S_Md)) (fun _ _ => none) (fun _ ih x2 s0 => (if (Md_end s0) ≤ x2 then (xm_p ((x2, s0))) else (xm_wr (Md_kinds s0) x2 (vp_nar .byte (-1 : Int32)) (fun a4 => (ih (x2 + 1) (a4, (Md_values s0), (Md_firsts s0), (Md_manies s0), (Md_said s0), (Md_marked s0), (Md_leaders s0), (Md_trial s0), (Md_shown s0), (Md_end s0), (Md_nodes s0), (Md_features s0), (Md_parts s0), (Md_fields s0), (Md_pushedFeatures s0), (Md_pushedParts s0), (Md_pushed s0), (Md_touched s0), (Md_touches s0), (Md_reached s0), (Md_blocks s0), (Md_newBlocks s0), (Md_places s0), (Md_written s0), (Md_other s0), (Md_length s0))))))) i
theorem L_Md_clear_7_s (y1 : Int32) (n i : Nat) (x2 : Int32) (s0 : S_Md) : L_Md_clear_7 y1 n (i + 1) x2 s0 = (if (Md_end s0) ≤ x2 then (xm_p ((x2, s0))) else (xm_wr (Md_kinds s0) x2 (vp_nar .byte (-1 : Int32)) (fun a4 => (L_Md_clear_7 y1 n i (x2 + 1) (a4, (Md_values s0), (Md_firsts s0), (Md_manies s0), (Md_said s0), (Md_marked s0), (Md_leaders s0), (Md_trial s0), (Md_shown s0), (Md_end s0), (Md_nodes s0), (Md_features s0), (Md_parts s0), (Md_fields s0), (Md_pushedFeatures s0), (Md_pushedParts s0), (Md_pushed s0), (Md_touched s0), (Md_touches s0), (Md_reached s0), (Md_blocks s0), (Md_newBlocks s0), (Md_places s0), (Md_written s0), (Md_other s0), (Md_length s0)))))) := rfl
noncomputable def m_Md_clear (n : Nat) (s0 : S_Md)  : MO (Int32 × S_Md) := (xm_b (L_Md_clear_7 (Md_nodes s0) n n (0 : Int32) s0) (fun o5 => (xm_p ((Md_nodes s0), ((Md_kinds (o5.2)), (Md_values (o5.2)), (Md_firsts (o5.2)), (Md_manies (o5.2)), (Md_said (o5.2)), (Md_marked (o5.2)), (Md_leaders (o5.2)), (Md_trial (o5.2)), (Md_shown (o5.2)), (0 : Int32), (0 : Int32), (Md_features (o5.2)), (Md_parts (o5.2)), (0 : Int32), (Md_pushedFeatures (o5.2)), (Md_pushedParts (o5.2)), (0 : Int32), (Md_touched (o5.2)), (0 : Int32), (Md_reached (o5.2)), (Md_blocks (o5.2)), (Md_newBlocks (o5.2)), (Md_places (o5.2)), (Md_written (o5.2)), (Md_other (o5.2)), (Md_length (o5.2)))))))
set_option maxHeartbeats 4000000 in
set_option maxRecDepth 100000 in
theorem wl_Md_clear_7 {X : XT} {l : Launch} {D : va_G} {cA : Nat → ClassId} {mc ms : Nat} (F : XF X l D cA b_Md_clear 3 (some FieldType.int) R_Md 0 0 mc ms) (n : Nat) (ob0 : Nat → Nat) (y1 : Int32)   : ∀ (i : Nat) (x2 : Int32) (s0 : S_Md) (ad0 : Nat → Nat) (nc ns : Nat) (out : Int32 × S_Md) (k : KC), L_Md_clear_7 y1 n i x2 s0 = some (out, k) → nc + k.1 ≤ mc → ns + k.2 ≤ ms → (∀ ad : Nat → Nat, XW X 3 ((w_Md cA ob0 ad  (out.2))) (nc + k.1) (ns + k.2) 28 [(0, .ref (ob0 0)), (1, .int y1), (2, .int (out.1))] []) → XW X 3 ((w_Md cA ob0 ad0  s0)) nc ns 7 [(0, .ref (ob0 0)), (1, .int y1), (2, .int x2)] [] := by
  intro i
  induction i with
  | zero =>
    intro x2 s0 ad0 nc ns out k hm
    replace hm : (none : MO (Int32 × S_Md)) = some (out, k) := hm
    cases hm
  | succ i ih =>
    intro x2 s0 ad0 nc ns out k hm hc hs KX
    rw [L_Md_clear_7_s] at hm
    refine x_ws (ws' := [((ob0 0), .inr (8, [.ref (ob0 1), .ref (ob0 2), .ref (ob0 3), .ref (ob0 4), .ref (ob0 5), .ref (ob0 6), .ref (ob0 7), .ref (ob0 8), .ref (ob0 9), .int (Md_end s0), .int (Md_nodes s0), .ref (ob0 10), .ref (ob0 11), .int (Md_fields s0), .ref (ob0 12), .ref (ob0 13), .int (Md_pushed s0), .ref (ob0 14), .int (Md_touches s0), .ref (ob0 15), .ref (ob0 16), .ref (ob0 17), .ref (ob0 18), .ref (ad0 0), .ref (ad0 1), .int (Md_length s0)])), ((ob0 1), .inl (cA 1, (Md_kinds s0).1, .inl (Md_kinds s0).2)), ((ob0 2), .inl (cA 0, (Md_values s0).1, .inl (Md_values s0).2)), ((ob0 3), .inl (cA 0, (Md_firsts s0).1, .inl (Md_firsts s0).2)), ((ob0 4), .inl (cA 0, (Md_manies s0).1, .inl (Md_manies s0).2)), ((ob0 5), .inl (cA 2, (Md_said s0).1, .inl (Md_said s0).2)), ((ob0 6), .inl (cA 2, (Md_marked s0).1, .inl (Md_marked s0).2)), ((ob0 7), .inl (cA 0, (Md_leaders s0).1, .inl (Md_leaders s0).2)), ((ob0 8), .inl (cA 0, (Md_trial s0).1, .inl (Md_trial s0).2)), ((ob0 9), .inl (cA 0, (Md_shown s0).1, .inl (Md_shown s0).2)), ((ob0 10), .inl (cA 0, (Md_features s0).1, .inl (Md_features s0).2)), ((ob0 11), .inl (cA 0, (Md_parts s0).1, .inl (Md_parts s0).2)), ((ob0 12), .inl (cA 0, (Md_pushedFeatures s0).1, .inl (Md_pushedFeatures s0).2)), ((ob0 13), .inl (cA 0, (Md_pushedParts s0).1, .inl (Md_pushedParts s0).2)), ((ob0 14), .inl (cA 0, (Md_touched s0).1, .inl (Md_touched s0).2)), ((ob0 15), .inl (cA 0, (Md_reached s0).1, .inl (Md_reached s0).2)), ((ob0 16), .inl (cA 0, (Md_blocks s0).1, .inl (Md_blocks s0).2)), ((ob0 17), .inl (cA 0, (Md_newBlocks s0).1, .inl (Md_newBlocks s0).2)), ((ob0 18), .inl (cA 0, (Md_places s0).1, .inl (Md_places s0).2)), ((ad0 0), .inl (cA 0, (Md_written s0).1, .inl (Md_written s0).2)), ((ad0 1), .inl (cA 0, (Md_other s0).1, .inl (Md_other s0).2))]) rfl ?_
    refine x_iload_n F d_Md_clear_7 2 rfl rfl ?_
    refine x_aload_n F d_Md_clear_8 0 rfl rfl ?_
    refine x_get F ck_Md hin_Md 0 9 rfl (by decide) kw_643 rfl rfl d_Md_clear_9 ?_
    refine x_icmp_ge F 28 d_Md_clear_12 (by decide) (fun c3 => ?_) (fun c3 => ?_)
    · replace hm := xm_t hm c3
      replace hm := xm_p_some hm
      obtain ⟨eo, c_o, d_o⟩ := hm
      subst eo
      refine x_sub [0, 1, 2, 3, 4, 5, 6, 7, 8, 9, 10, 11, 12, 13, 14, 15, 16, 17, 18, 19, 20] (by decide) ?_ (x_lv [0, 1, 2] ?_ (x_cs (by omega) (by omega) (KX ad0)))
      · rfl
      · rfl
    · replace hm := xm_f hm c3
      refine x_aload_n F d_Md_clear_15 0 rfl rfl ?_
      refine x_get F ck_Md hin_Md 0 0 rfl (by decide) kw_634 rfl rfl d_Md_clear_16 ?_
      refine x_iload_n F d_Md_clear_19 2 rfl rfl ?_
      refine x_iconst (v := (-1 : Int32)) F d_Md_clear_20 (by decide) ?_
      replace hm := xm_wr_some hm
      obtain ⟨a4, e_a4, b_a4, hm⟩ := hm
      refine x_bast (x := (Md_kinds s0)) (x' := a4) (ws' := [((ob0 0), .inr (8, [.ref (ob0 1), .ref (ob0 2), .ref (ob0 3), .ref (ob0 4), .ref (ob0 5), .ref (ob0 6), .ref (ob0 7), .ref (ob0 8), .ref (ob0 9), .int (Md_end s0), .int (Md_nodes s0), .ref (ob0 10), .ref (ob0 11), .int (Md_fields s0), .ref (ob0 12), .ref (ob0 13), .int (Md_pushed s0), .ref (ob0 14), .int (Md_touches s0), .ref (ob0 15), .ref (ob0 16), .ref (ob0 17), .ref (ob0 18), .ref (ad0 0), .ref (ad0 1), .int (Md_length s0)])), ((ob0 1), .inl (cA 1, a4.1, .inl a4.2)), ((ob0 2), .inl (cA 0, (Md_values s0).1, .inl (Md_values s0).2)), ((ob0 3), .inl (cA 0, (Md_firsts s0).1, .inl (Md_firsts s0).2)), ((ob0 4), .inl (cA 0, (Md_manies s0).1, .inl (Md_manies s0).2)), ((ob0 5), .inl (cA 2, (Md_said s0).1, .inl (Md_said s0).2)), ((ob0 6), .inl (cA 2, (Md_marked s0).1, .inl (Md_marked s0).2)), ((ob0 7), .inl (cA 0, (Md_leaders s0).1, .inl (Md_leaders s0).2)), ((ob0 8), .inl (cA 0, (Md_trial s0).1, .inl (Md_trial s0).2)), ((ob0 9), .inl (cA 0, (Md_shown s0).1, .inl (Md_shown s0).2)), ((ob0 10), .inl (cA 0, (Md_features s0).1, .inl (Md_features s0).2)), ((ob0 11), .inl (cA 0, (Md_parts s0).1, .inl (Md_parts s0).2)), ((ob0 12), .inl (cA 0, (Md_pushedFeatures s0).1, .inl (Md_pushedFeatures s0).2)), ((ob0 13), .inl (cA 0, (Md_pushedParts s0).1, .inl (Md_pushedParts s0).2)), ((ob0 14), .inl (cA 0, (Md_touched s0).1, .inl (Md_touched s0).2)), ((ob0 15), .inl (cA 0, (Md_reached s0).1, .inl (Md_reached s0).2)), ((ob0 16), .inl (cA 0, (Md_blocks s0).1, .inl (Md_blocks s0).2)), ((ob0 17), .inl (cA 0, (Md_newBlocks s0).1, .inl (Md_newBlocks s0).2)), ((ob0 18), .inl (cA 0, (Md_places s0).1, .inl (Md_places s0).2)), ((ad0 0), .inl (cA 0, (Md_written s0).1, .inl (Md_written s0).2)), ((ad0 1), .inl (cA 0, (Md_other s0).1, .inl (Md_other s0).2))]) F 1 rfl e_a4 b_a4 rfl d_Md_clear_21 ?_
      refine x_iinc (v := (x2 + 1)) (lv' := [(2, .int (x2 + 1)), (0, .ref (ob0 0)), (1, .int y1)]) F d_Md_clear_22 2 rfl rfl (by decide) rfl ?_
      refine x_goto F 7 d_Md_clear_25 (by decide) ?_
      refine x_sub [0, 1, 2, 3, 4, 5, 6, 7, 8, 9, 10, 11, 12, 13, 14, 15, 16, 17, 18, 19, 20] (by decide) ?_ (x_lv [1, 2, 0] ?_ (ih (x2 + 1) (a4, (Md_values s0), (Md_firsts s0), (Md_manies s0), (Md_said s0), (Md_marked s0), (Md_leaders s0), (Md_trial s0), (Md_shown s0), (Md_end s0), (Md_nodes s0), (Md_features s0), (Md_parts s0), (Md_fields s0), (Md_pushedFeatures s0), (Md_pushedParts s0), (Md_pushed s0), (Md_touched s0), (Md_touches s0), (Md_reached s0), (Md_blocks s0), (Md_newBlocks s0), (Md_places s0), (Md_written s0), (Md_other s0), (Md_length s0)) ad0 _ _ out k hm (by omega) (by omega) (fun ad => x_cs (by omega) (by omega) (KX ad))))
      · rfl
      · rfl
set_option maxHeartbeats 4000000 in
set_option maxRecDepth 100000 in
theorem c_Md_clear (l : Launch) (D : va_G) (cA : Nat → ClassId) (n : Nat) (ob0 ad0 : Nat → Nat) (s0 : S_Md)  (out : Int32 × S_Md) (k : KC) (hm : m_Md_clear n s0  = some (out, k)) : XM l D cA y_Md_clear b_Md_clear 3 (some FieldType.int) 0 0 [.ref (ob0 0)] ((w_Md cA ob0 ad0  s0)) k (fun _ => some (.int (out.1))) (fun ad => (w_Md cA ob0 ad  (out.2))) := by
  refine x_met (cc := b_Md_clear) (nL := 3) (ret := (some FieldType.int)) R_Md (by decide) (Nat.le_of_ble_eq_true rfl) rfl (fun X F I E => ?_)
  unfold m_Md_clear at hm
  refine x_nf2 (ws' := [((ob0 0), .inr (8, [.ref (ob0 1), .ref (ob0 2), .ref (ob0 3), .ref (ob0 4), .ref (ob0 5), .ref (ob0 6), .ref (ob0 7), .ref (ob0 8), .ref (ob0 9), .int (Md_end s0), .int (Md_nodes s0), .ref (ob0 10), .ref (ob0 11), .int (Md_fields s0), .ref (ob0 12), .ref (ob0 13), .int (Md_pushed s0), .ref (ob0 14), .int (Md_touches s0), .ref (ob0 15), .ref (ob0 16), .ref (ob0 17), .ref (ob0 18), .ref (ad0 0), .ref (ad0 1), .int (Md_length s0)])), ((ob0 1), .inl (cA 1, (Md_kinds s0).1, .inl (Md_kinds s0).2)), ((ob0 2), .inl (cA 0, (Md_values s0).1, .inl (Md_values s0).2)), ((ob0 3), .inl (cA 0, (Md_firsts s0).1, .inl (Md_firsts s0).2)), ((ob0 4), .inl (cA 0, (Md_manies s0).1, .inl (Md_manies s0).2)), ((ob0 5), .inl (cA 2, (Md_said s0).1, .inl (Md_said s0).2)), ((ob0 6), .inl (cA 2, (Md_marked s0).1, .inl (Md_marked s0).2)), ((ob0 7), .inl (cA 0, (Md_leaders s0).1, .inl (Md_leaders s0).2)), ((ob0 8), .inl (cA 0, (Md_trial s0).1, .inl (Md_trial s0).2)), ((ob0 9), .inl (cA 0, (Md_shown s0).1, .inl (Md_shown s0).2)), ((ob0 10), .inl (cA 0, (Md_features s0).1, .inl (Md_features s0).2)), ((ob0 11), .inl (cA 0, (Md_parts s0).1, .inl (Md_parts s0).2)), ((ob0 12), .inl (cA 0, (Md_pushedFeatures s0).1, .inl (Md_pushedFeatures s0).2)), ((ob0 13), .inl (cA 0, (Md_pushedParts s0).1, .inl (Md_pushedParts s0).2)), ((ob0 14), .inl (cA 0, (Md_touched s0).1, .inl (Md_touched s0).2)), ((ob0 15), .inl (cA 0, (Md_reached s0).1, .inl (Md_reached s0).2)), ((ob0 16), .inl (cA 0, (Md_blocks s0).1, .inl (Md_blocks s0).2)), ((ob0 17), .inl (cA 0, (Md_newBlocks s0).1, .inl (Md_newBlocks s0).2)), ((ob0 18), .inl (cA 0, (Md_places s0).1, .inl (Md_places s0).2)), ((ad0 0), .inl (cA 0, (Md_written s0).1, .inl (Md_written s0).2)), ((ad0 1), .inl (cA 0, (Md_other s0).1, .inl (Md_other s0).2))]) (lv' := [(0, .ref (ob0 0))]) rfl rfl ?_
  refine x_aload_n F d_Md_clear_0 0 rfl rfl ?_
  refine x_get F ck_Md hin_Md 0 10 rfl (by decide) kw_644 rfl rfl d_Md_clear_1 ?_
  refine x_istore_n (lv' := [(1, .int (Md_nodes s0)), (0, .ref (ob0 0))]) F d_Md_clear_4 rfl (by decide) rfl ?_
  refine x_iconst (v := (0 : Int32)) F d_Md_clear_5 (by decide) ?_
  refine x_istore_n (lv' := [(2, .int (0 : Int32)), (1, .int (Md_nodes s0)), (0, .ref (ob0 0))]) F d_Md_clear_6 rfl (by decide) rfl ?_
  replace hm := xm_b_some hm
  obtain ⟨o5, k6, k7, h8, hm, c_o5, d_o5⟩ := hm
  refine x_sub [0, 1, 2, 3, 4, 5, 6, 7, 8, 9, 10, 11, 12, 13, 14, 15, 16, 17, 18, 19, 20] (by decide) ?_ (x_lv [2, 1, 0] ?_ (wl_Md_clear_7 F n ob0 (Md_nodes s0)  n (0 : Int32) s0 ad0 _ _ o5 k6 h8 (by omega) (by omega) (fun ad9 => ?_)))
  · rfl
  · rfl
  refine x_nf2 (ws' := [((ob0 0), .inr (8, [.ref (ob0 1), .ref (ob0 2), .ref (ob0 3), .ref (ob0 4), .ref (ob0 5), .ref (ob0 6), .ref (ob0 7), .ref (ob0 8), .ref (ob0 9), .int (Md_end (o5.2)), .int (Md_nodes (o5.2)), .ref (ob0 10), .ref (ob0 11), .int (Md_fields (o5.2)), .ref (ob0 12), .ref (ob0 13), .int (Md_pushed (o5.2)), .ref (ob0 14), .int (Md_touches (o5.2)), .ref (ob0 15), .ref (ob0 16), .ref (ob0 17), .ref (ob0 18), .ref (ad9 0), .ref (ad9 1), .int (Md_length (o5.2))])), ((ob0 1), .inl (cA 1, (Md_kinds (o5.2)).1, .inl (Md_kinds (o5.2)).2)), ((ob0 2), .inl (cA 0, (Md_values (o5.2)).1, .inl (Md_values (o5.2)).2)), ((ob0 3), .inl (cA 0, (Md_firsts (o5.2)).1, .inl (Md_firsts (o5.2)).2)), ((ob0 4), .inl (cA 0, (Md_manies (o5.2)).1, .inl (Md_manies (o5.2)).2)), ((ob0 5), .inl (cA 2, (Md_said (o5.2)).1, .inl (Md_said (o5.2)).2)), ((ob0 6), .inl (cA 2, (Md_marked (o5.2)).1, .inl (Md_marked (o5.2)).2)), ((ob0 7), .inl (cA 0, (Md_leaders (o5.2)).1, .inl (Md_leaders (o5.2)).2)), ((ob0 8), .inl (cA 0, (Md_trial (o5.2)).1, .inl (Md_trial (o5.2)).2)), ((ob0 9), .inl (cA 0, (Md_shown (o5.2)).1, .inl (Md_shown (o5.2)).2)), ((ob0 10), .inl (cA 0, (Md_features (o5.2)).1, .inl (Md_features (o5.2)).2)), ((ob0 11), .inl (cA 0, (Md_parts (o5.2)).1, .inl (Md_parts (o5.2)).2)), ((ob0 12), .inl (cA 0, (Md_pushedFeatures (o5.2)).1, .inl (Md_pushedFeatures (o5.2)).2)), ((ob0 13), .inl (cA 0, (Md_pushedParts (o5.2)).1, .inl (Md_pushedParts (o5.2)).2)), ((ob0 14), .inl (cA 0, (Md_touched (o5.2)).1, .inl (Md_touched (o5.2)).2)), ((ob0 15), .inl (cA 0, (Md_reached (o5.2)).1, .inl (Md_reached (o5.2)).2)), ((ob0 16), .inl (cA 0, (Md_blocks (o5.2)).1, .inl (Md_blocks (o5.2)).2)), ((ob0 17), .inl (cA 0, (Md_newBlocks (o5.2)).1, .inl (Md_newBlocks (o5.2)).2)), ((ob0 18), .inl (cA 0, (Md_places (o5.2)).1, .inl (Md_places (o5.2)).2)), ((ad9 0), .inl (cA 0, (Md_written (o5.2)).1, .inl (Md_written (o5.2)).2)), ((ad9 1), .inl (cA 0, (Md_other (o5.2)).1, .inl (Md_other (o5.2)).2))]) (lv' := [(0, .ref (ob0 0)), (1, .int (Md_nodes s0)), (2, .int (o5.1))]) rfl rfl ?_
  refine x_aload_n F d_Md_clear_28 0 rfl rfl ?_
  refine x_iconst (v := (0 : Int32)) F d_Md_clear_29 (by decide) ?_
  refine x_put (ws' := [((ob0 0), .inr (8, [.ref (ob0 1), .ref (ob0 2), .ref (ob0 3), .ref (ob0 4), .ref (ob0 5), .ref (ob0 6), .ref (ob0 7), .ref (ob0 8), .ref (ob0 9), .int (0 : Int32), .int (Md_nodes (o5.2)), .ref (ob0 10), .ref (ob0 11), .int (Md_fields (o5.2)), .ref (ob0 12), .ref (ob0 13), .int (Md_pushed (o5.2)), .ref (ob0 14), .int (Md_touches (o5.2)), .ref (ob0 15), .ref (ob0 16), .ref (ob0 17), .ref (ob0 18), .ref (ad9 0), .ref (ad9 1), .int (Md_length (o5.2))])), ((ob0 1), .inl (cA 1, (Md_kinds (o5.2)).1, .inl (Md_kinds (o5.2)).2)), ((ob0 2), .inl (cA 0, (Md_values (o5.2)).1, .inl (Md_values (o5.2)).2)), ((ob0 3), .inl (cA 0, (Md_firsts (o5.2)).1, .inl (Md_firsts (o5.2)).2)), ((ob0 4), .inl (cA 0, (Md_manies (o5.2)).1, .inl (Md_manies (o5.2)).2)), ((ob0 5), .inl (cA 2, (Md_said (o5.2)).1, .inl (Md_said (o5.2)).2)), ((ob0 6), .inl (cA 2, (Md_marked (o5.2)).1, .inl (Md_marked (o5.2)).2)), ((ob0 7), .inl (cA 0, (Md_leaders (o5.2)).1, .inl (Md_leaders (o5.2)).2)), ((ob0 8), .inl (cA 0, (Md_trial (o5.2)).1, .inl (Md_trial (o5.2)).2)), ((ob0 9), .inl (cA 0, (Md_shown (o5.2)).1, .inl (Md_shown (o5.2)).2)), ((ob0 10), .inl (cA 0, (Md_features (o5.2)).1, .inl (Md_features (o5.2)).2)), ((ob0 11), .inl (cA 0, (Md_parts (o5.2)).1, .inl (Md_parts (o5.2)).2)), ((ob0 12), .inl (cA 0, (Md_pushedFeatures (o5.2)).1, .inl (Md_pushedFeatures (o5.2)).2)), ((ob0 13), .inl (cA 0, (Md_pushedParts (o5.2)).1, .inl (Md_pushedParts (o5.2)).2)), ((ob0 14), .inl (cA 0, (Md_touched (o5.2)).1, .inl (Md_touched (o5.2)).2)), ((ob0 15), .inl (cA 0, (Md_reached (o5.2)).1, .inl (Md_reached (o5.2)).2)), ((ob0 16), .inl (cA 0, (Md_blocks (o5.2)).1, .inl (Md_blocks (o5.2)).2)), ((ob0 17), .inl (cA 0, (Md_newBlocks (o5.2)).1, .inl (Md_newBlocks (o5.2)).2)), ((ob0 18), .inl (cA 0, (Md_places (o5.2)).1, .inl (Md_places (o5.2)).2)), ((ad9 0), .inl (cA 0, (Md_written (o5.2)).1, .inl (Md_written (o5.2)).2)), ((ad9 1), .inl (cA 0, (Md_other (o5.2)).1, .inl (Md_other (o5.2)).2))]) F ck_Md hin_Md 0 9 rfl (by decide) kw_643 rfl rfl rfl rfl (Nat.le_of_ble_eq_true rfl) rfl d_Md_clear_30 ?_
  refine x_aload_n F d_Md_clear_33 0 rfl rfl ?_
  refine x_iconst (v := (0 : Int32)) F d_Md_clear_34 (by decide) ?_
  refine x_put (ws' := [((ob0 0), .inr (8, [.ref (ob0 1), .ref (ob0 2), .ref (ob0 3), .ref (ob0 4), .ref (ob0 5), .ref (ob0 6), .ref (ob0 7), .ref (ob0 8), .ref (ob0 9), .int (0 : Int32), .int (0 : Int32), .ref (ob0 10), .ref (ob0 11), .int (Md_fields (o5.2)), .ref (ob0 12), .ref (ob0 13), .int (Md_pushed (o5.2)), .ref (ob0 14), .int (Md_touches (o5.2)), .ref (ob0 15), .ref (ob0 16), .ref (ob0 17), .ref (ob0 18), .ref (ad9 0), .ref (ad9 1), .int (Md_length (o5.2))])), ((ob0 1), .inl (cA 1, (Md_kinds (o5.2)).1, .inl (Md_kinds (o5.2)).2)), ((ob0 2), .inl (cA 0, (Md_values (o5.2)).1, .inl (Md_values (o5.2)).2)), ((ob0 3), .inl (cA 0, (Md_firsts (o5.2)).1, .inl (Md_firsts (o5.2)).2)), ((ob0 4), .inl (cA 0, (Md_manies (o5.2)).1, .inl (Md_manies (o5.2)).2)), ((ob0 5), .inl (cA 2, (Md_said (o5.2)).1, .inl (Md_said (o5.2)).2)), ((ob0 6), .inl (cA 2, (Md_marked (o5.2)).1, .inl (Md_marked (o5.2)).2)), ((ob0 7), .inl (cA 0, (Md_leaders (o5.2)).1, .inl (Md_leaders (o5.2)).2)), ((ob0 8), .inl (cA 0, (Md_trial (o5.2)).1, .inl (Md_trial (o5.2)).2)), ((ob0 9), .inl (cA 0, (Md_shown (o5.2)).1, .inl (Md_shown (o5.2)).2)), ((ob0 10), .inl (cA 0, (Md_features (o5.2)).1, .inl (Md_features (o5.2)).2)), ((ob0 11), .inl (cA 0, (Md_parts (o5.2)).1, .inl (Md_parts (o5.2)).2)), ((ob0 12), .inl (cA 0, (Md_pushedFeatures (o5.2)).1, .inl (Md_pushedFeatures (o5.2)).2)), ((ob0 13), .inl (cA 0, (Md_pushedParts (o5.2)).1, .inl (Md_pushedParts (o5.2)).2)), ((ob0 14), .inl (cA 0, (Md_touched (o5.2)).1, .inl (Md_touched (o5.2)).2)), ((ob0 15), .inl (cA 0, (Md_reached (o5.2)).1, .inl (Md_reached (o5.2)).2)), ((ob0 16), .inl (cA 0, (Md_blocks (o5.2)).1, .inl (Md_blocks (o5.2)).2)), ((ob0 17), .inl (cA 0, (Md_newBlocks (o5.2)).1, .inl (Md_newBlocks (o5.2)).2)), ((ob0 18), .inl (cA 0, (Md_places (o5.2)).1, .inl (Md_places (o5.2)).2)), ((ad9 0), .inl (cA 0, (Md_written (o5.2)).1, .inl (Md_written (o5.2)).2)), ((ad9 1), .inl (cA 0, (Md_other (o5.2)).1, .inl (Md_other (o5.2)).2))]) F ck_Md hin_Md 0 10 rfl (by decide) kw_644 rfl rfl rfl rfl (Nat.le_of_ble_eq_true rfl) rfl d_Md_clear_35 ?_
  refine x_aload_n F d_Md_clear_38 0 rfl rfl ?_
  refine x_iconst (v := (0 : Int32)) F d_Md_clear_39 (by decide) ?_
  refine x_put (ws' := [((ob0 0), .inr (8, [.ref (ob0 1), .ref (ob0 2), .ref (ob0 3), .ref (ob0 4), .ref (ob0 5), .ref (ob0 6), .ref (ob0 7), .ref (ob0 8), .ref (ob0 9), .int (0 : Int32), .int (0 : Int32), .ref (ob0 10), .ref (ob0 11), .int (0 : Int32), .ref (ob0 12), .ref (ob0 13), .int (Md_pushed (o5.2)), .ref (ob0 14), .int (Md_touches (o5.2)), .ref (ob0 15), .ref (ob0 16), .ref (ob0 17), .ref (ob0 18), .ref (ad9 0), .ref (ad9 1), .int (Md_length (o5.2))])), ((ob0 1), .inl (cA 1, (Md_kinds (o5.2)).1, .inl (Md_kinds (o5.2)).2)), ((ob0 2), .inl (cA 0, (Md_values (o5.2)).1, .inl (Md_values (o5.2)).2)), ((ob0 3), .inl (cA 0, (Md_firsts (o5.2)).1, .inl (Md_firsts (o5.2)).2)), ((ob0 4), .inl (cA 0, (Md_manies (o5.2)).1, .inl (Md_manies (o5.2)).2)), ((ob0 5), .inl (cA 2, (Md_said (o5.2)).1, .inl (Md_said (o5.2)).2)), ((ob0 6), .inl (cA 2, (Md_marked (o5.2)).1, .inl (Md_marked (o5.2)).2)), ((ob0 7), .inl (cA 0, (Md_leaders (o5.2)).1, .inl (Md_leaders (o5.2)).2)), ((ob0 8), .inl (cA 0, (Md_trial (o5.2)).1, .inl (Md_trial (o5.2)).2)), ((ob0 9), .inl (cA 0, (Md_shown (o5.2)).1, .inl (Md_shown (o5.2)).2)), ((ob0 10), .inl (cA 0, (Md_features (o5.2)).1, .inl (Md_features (o5.2)).2)), ((ob0 11), .inl (cA 0, (Md_parts (o5.2)).1, .inl (Md_parts (o5.2)).2)), ((ob0 12), .inl (cA 0, (Md_pushedFeatures (o5.2)).1, .inl (Md_pushedFeatures (o5.2)).2)), ((ob0 13), .inl (cA 0, (Md_pushedParts (o5.2)).1, .inl (Md_pushedParts (o5.2)).2)), ((ob0 14), .inl (cA 0, (Md_touched (o5.2)).1, .inl (Md_touched (o5.2)).2)), ((ob0 15), .inl (cA 0, (Md_reached (o5.2)).1, .inl (Md_reached (o5.2)).2)), ((ob0 16), .inl (cA 0, (Md_blocks (o5.2)).1, .inl (Md_blocks (o5.2)).2)), ((ob0 17), .inl (cA 0, (Md_newBlocks (o5.2)).1, .inl (Md_newBlocks (o5.2)).2)), ((ob0 18), .inl (cA 0, (Md_places (o5.2)).1, .inl (Md_places (o5.2)).2)), ((ad9 0), .inl (cA 0, (Md_written (o5.2)).1, .inl (Md_written (o5.2)).2)), ((ad9 1), .inl (cA 0, (Md_other (o5.2)).1, .inl (Md_other (o5.2)).2))]) F ck_Md hin_Md 0 13 rfl (by decide) kw_647 rfl rfl rfl rfl (Nat.le_of_ble_eq_true rfl) rfl d_Md_clear_40 ?_
  refine x_aload_n F d_Md_clear_43 0 rfl rfl ?_
  refine x_iconst (v := (0 : Int32)) F d_Md_clear_44 (by decide) ?_
  refine x_put (ws' := [((ob0 0), .inr (8, [.ref (ob0 1), .ref (ob0 2), .ref (ob0 3), .ref (ob0 4), .ref (ob0 5), .ref (ob0 6), .ref (ob0 7), .ref (ob0 8), .ref (ob0 9), .int (0 : Int32), .int (0 : Int32), .ref (ob0 10), .ref (ob0 11), .int (0 : Int32), .ref (ob0 12), .ref (ob0 13), .int (0 : Int32), .ref (ob0 14), .int (Md_touches (o5.2)), .ref (ob0 15), .ref (ob0 16), .ref (ob0 17), .ref (ob0 18), .ref (ad9 0), .ref (ad9 1), .int (Md_length (o5.2))])), ((ob0 1), .inl (cA 1, (Md_kinds (o5.2)).1, .inl (Md_kinds (o5.2)).2)), ((ob0 2), .inl (cA 0, (Md_values (o5.2)).1, .inl (Md_values (o5.2)).2)), ((ob0 3), .inl (cA 0, (Md_firsts (o5.2)).1, .inl (Md_firsts (o5.2)).2)), ((ob0 4), .inl (cA 0, (Md_manies (o5.2)).1, .inl (Md_manies (o5.2)).2)), ((ob0 5), .inl (cA 2, (Md_said (o5.2)).1, .inl (Md_said (o5.2)).2)), ((ob0 6), .inl (cA 2, (Md_marked (o5.2)).1, .inl (Md_marked (o5.2)).2)), ((ob0 7), .inl (cA 0, (Md_leaders (o5.2)).1, .inl (Md_leaders (o5.2)).2)), ((ob0 8), .inl (cA 0, (Md_trial (o5.2)).1, .inl (Md_trial (o5.2)).2)), ((ob0 9), .inl (cA 0, (Md_shown (o5.2)).1, .inl (Md_shown (o5.2)).2)), ((ob0 10), .inl (cA 0, (Md_features (o5.2)).1, .inl (Md_features (o5.2)).2)), ((ob0 11), .inl (cA 0, (Md_parts (o5.2)).1, .inl (Md_parts (o5.2)).2)), ((ob0 12), .inl (cA 0, (Md_pushedFeatures (o5.2)).1, .inl (Md_pushedFeatures (o5.2)).2)), ((ob0 13), .inl (cA 0, (Md_pushedParts (o5.2)).1, .inl (Md_pushedParts (o5.2)).2)), ((ob0 14), .inl (cA 0, (Md_touched (o5.2)).1, .inl (Md_touched (o5.2)).2)), ((ob0 15), .inl (cA 0, (Md_reached (o5.2)).1, .inl (Md_reached (o5.2)).2)), ((ob0 16), .inl (cA 0, (Md_blocks (o5.2)).1, .inl (Md_blocks (o5.2)).2)), ((ob0 17), .inl (cA 0, (Md_newBlocks (o5.2)).1, .inl (Md_newBlocks (o5.2)).2)), ((ob0 18), .inl (cA 0, (Md_places (o5.2)).1, .inl (Md_places (o5.2)).2)), ((ad9 0), .inl (cA 0, (Md_written (o5.2)).1, .inl (Md_written (o5.2)).2)), ((ad9 1), .inl (cA 0, (Md_other (o5.2)).1, .inl (Md_other (o5.2)).2))]) F ck_Md hin_Md 0 16 rfl (by decide) kw_650 rfl rfl rfl rfl (Nat.le_of_ble_eq_true rfl) rfl d_Md_clear_45 ?_
  refine x_aload_n F d_Md_clear_48 0 rfl rfl ?_
  refine x_iconst (v := (0 : Int32)) F d_Md_clear_49 (by decide) ?_
  refine x_put (ws' := [((ob0 0), .inr (8, [.ref (ob0 1), .ref (ob0 2), .ref (ob0 3), .ref (ob0 4), .ref (ob0 5), .ref (ob0 6), .ref (ob0 7), .ref (ob0 8), .ref (ob0 9), .int (0 : Int32), .int (0 : Int32), .ref (ob0 10), .ref (ob0 11), .int (0 : Int32), .ref (ob0 12), .ref (ob0 13), .int (0 : Int32), .ref (ob0 14), .int (0 : Int32), .ref (ob0 15), .ref (ob0 16), .ref (ob0 17), .ref (ob0 18), .ref (ad9 0), .ref (ad9 1), .int (Md_length (o5.2))])), ((ob0 1), .inl (cA 1, (Md_kinds (o5.2)).1, .inl (Md_kinds (o5.2)).2)), ((ob0 2), .inl (cA 0, (Md_values (o5.2)).1, .inl (Md_values (o5.2)).2)), ((ob0 3), .inl (cA 0, (Md_firsts (o5.2)).1, .inl (Md_firsts (o5.2)).2)), ((ob0 4), .inl (cA 0, (Md_manies (o5.2)).1, .inl (Md_manies (o5.2)).2)), ((ob0 5), .inl (cA 2, (Md_said (o5.2)).1, .inl (Md_said (o5.2)).2)), ((ob0 6), .inl (cA 2, (Md_marked (o5.2)).1, .inl (Md_marked (o5.2)).2)), ((ob0 7), .inl (cA 0, (Md_leaders (o5.2)).1, .inl (Md_leaders (o5.2)).2)), ((ob0 8), .inl (cA 0, (Md_trial (o5.2)).1, .inl (Md_trial (o5.2)).2)), ((ob0 9), .inl (cA 0, (Md_shown (o5.2)).1, .inl (Md_shown (o5.2)).2)), ((ob0 10), .inl (cA 0, (Md_features (o5.2)).1, .inl (Md_features (o5.2)).2)), ((ob0 11), .inl (cA 0, (Md_parts (o5.2)).1, .inl (Md_parts (o5.2)).2)), ((ob0 12), .inl (cA 0, (Md_pushedFeatures (o5.2)).1, .inl (Md_pushedFeatures (o5.2)).2)), ((ob0 13), .inl (cA 0, (Md_pushedParts (o5.2)).1, .inl (Md_pushedParts (o5.2)).2)), ((ob0 14), .inl (cA 0, (Md_touched (o5.2)).1, .inl (Md_touched (o5.2)).2)), ((ob0 15), .inl (cA 0, (Md_reached (o5.2)).1, .inl (Md_reached (o5.2)).2)), ((ob0 16), .inl (cA 0, (Md_blocks (o5.2)).1, .inl (Md_blocks (o5.2)).2)), ((ob0 17), .inl (cA 0, (Md_newBlocks (o5.2)).1, .inl (Md_newBlocks (o5.2)).2)), ((ob0 18), .inl (cA 0, (Md_places (o5.2)).1, .inl (Md_places (o5.2)).2)), ((ad9 0), .inl (cA 0, (Md_written (o5.2)).1, .inl (Md_written (o5.2)).2)), ((ad9 1), .inl (cA 0, (Md_other (o5.2)).1, .inl (Md_other (o5.2)).2))]) F ck_Md hin_Md 0 18 rfl (by decide) kw_652 rfl rfl rfl rfl (Nat.le_of_ble_eq_true rfl) rfl d_Md_clear_50 ?_
  refine x_iload_n F d_Md_clear_53 1 rfl rfl ?_
  replace hm := xm_p_some hm
  obtain ⟨eo, c_o, d_o⟩ := hm
  subst eo
  refine x_sub [0, 1, 2, 3, 4, 5, 6, 7, 8, 9, 10, 11, 12, 13, 14, 15, 16, 17, 18, 19, 20] (by decide) ?_ (xe_i E ad9 (by omega) (by omega) rfl (xz_i _) d_Md_clear_54)
  rfl

noncomputable def L_Md_count_57 (y1 : Int32) (s0 : S_Md) (n i : Nat) : Int32 → Int32 → MO (Int32 × Int32) := Nat.rec (motive := fun _ => Int32 → Int32 → MO (Int32 × Int32)) (fun _ _ => none) (fun _ ih x2 x3 => (if (Md_end s0) ≤ x3 then (xm_p ((x2, x3))) else (xm_rd (Md_kinds s0) x3 (fun v23 => (xm_b (if v23 = (-1 : Int32) then (xm_p (0 : Int32)) else (xm_rd (Md_leaders s0) x3 (fun v29 => (if v29 = x3 then (xm_b (m_Md_meant n s0 x3) (fun o31 => (xm_rd (Md_kinds s0) o31 (fun v36 => (if v36 = 0 then (xm_p (1 : Int32)) else (xm_p (0 : Int32))))))) else (xm_p (0 : Int32)))))) (fun j24 => (ih (x2 + j24) (x3 + 1)))))))) i
theorem L_Md_count_57_s (y1 : Int32) (s0 : S_Md) (n i : Nat) (x2 : Int32) (x3 : Int32) : L_Md_count_57 y1 s0 n (i + 1) x2 x3 = (if (Md_end s0) ≤ x3 then (xm_p ((x2, x3))) else (xm_rd (Md_kinds s0) x3 (fun v23 => (xm_b (if v23 = (-1 : Int32) then (xm_p (0 : Int32)) else (xm_rd (Md_leaders s0) x3 (fun v29 => (if v29 = x3 then (xm_b (m_Md_meant n s0 x3) (fun o31 => (xm_rd (Md_kinds s0) o31 (fun v36 => (if v36 = 0 then (xm_p (1 : Int32)) else (xm_p (0 : Int32))))))) else (xm_p (0 : Int32)))))) (fun j24 => (L_Md_count_57 y1 s0 n i (x2 + j24) (x3 + 1))))))) := rfl
noncomputable def L_Md_count_121 (y1 : Int32) (s0 : S_Md) (n i : Nat) : Int32 → Int32 → MO (Int32 × Int32) := Nat.rec (motive := fun _ => Int32 → Int32 → MO (Int32 × Int32)) (fun _ _ => none) (fun _ ih x2 x3 => (if (Md_end s0) ≤ x3 then (xm_p ((x2, x3))) else (xm_rd (Md_kinds s0) x3 (fun v46 => (xm_b (if v46 = (-1 : Int32) then (xm_p (0 : Int32)) else (xm_rd (Md_marked s0) x3 (fun v52 => (if v52 = 0 then (xm_p (0 : Int32)) else (xm_p (1 : Int32)))))) (fun j47 => (ih (x2 + j47) (x3 + 1)))))))) i
theorem L_Md_count_121_s (y1 : Int32) (s0 : S_Md) (n i : Nat) (x2 : Int32) (x3 : Int32) : L_Md_count_121 y1 s0 n (i + 1) x2 x3 = (if (Md_end s0) ≤ x3 then (xm_p ((x2, x3))) else (xm_rd (Md_kinds s0) x3 (fun v46 => (xm_b (if v46 = (-1 : Int32) then (xm_p (0 : Int32)) else (xm_rd (Md_marked s0) x3 (fun v52 => (if v52 = 0 then (xm_p (0 : Int32)) else (xm_p (1 : Int32)))))) (fun j47 => (L_Md_count_121 y1 s0 n i (x2 + j47) (x3 + 1))))))) := rfl
noncomputable def m_Md_count (n : Nat) (s0 : S_Md) (p0 : Int32) : MO (Int32) := (if p0 = (0 : Int32) then (xm_p (Md_nodes s0)) else (if p0 = (1 : Int32) then (xm_p (Md_fields s0)) else (if p0 = (2 : Int32) then (xm_p (Md_pushed s0)) else (if p0 = (3 : Int32) then (xm_b (L_Md_count_57 p0 s0 n n (0 : Int32) (0 : Int32)) (fun o38 => (xm_p (o38.1)))) else (if p0 = (4 : Int32) then (xm_p (Md_touches s0)) else (if p0 = (5 : Int32) then (xm_b (L_Md_count_121 p0 s0 n n (0 : Int32) (0 : Int32)) (fun o54 => (xm_p (o54.1)))) else (xm_p (-1 : Int32))))))))
set_option maxHeartbeats 4000000 in
set_option maxRecDepth 100000 in
theorem wl_Md_count_57 {X : XT} {l : Launch} {D : va_G} {cA : Nat → ClassId} {mc ms : Nat} (F : XF X l D cA b_Md_count 4 (some FieldType.int) R_Md 1 22 mc ms) (n : Nat) (ob0 : Nat → Nat) (y1 : Int32) (s0 : S_Md)  (ad0 : Nat → Nat) : ∀ (i : Nat) (x2 : Int32) (x3 : Int32)  (nc ns : Nat) (out : Int32 × Int32) (k : KC), L_Md_count_57 y1 s0 n i x2 x3 = some (out, k) → nc + k.1 ≤ mc → ns + k.2 ≤ ms → (∀ ad : Nat → Nat, XW X 4 ((w_Md cA ob0 ad0  s0)) (nc + k.1) (ns + k.2) 112 [(0, .ref (ob0 0)), (1, .int y1), (2, .int (out.1)), (3, .int (out.2))] []) → XW X 4 ((w_Md cA ob0 ad0  s0)) nc ns 57 [(0, .ref (ob0 0)), (1, .int y1), (2, .int x2), (3, .int x3)] [] := by
  intro i
  induction i with
  | zero =>
    intro x2 x3  nc ns out k hm
    replace hm : (none : MO (Int32 × Int32)) = some (out, k) := hm
    cases hm
  | succ i ih =>
    intro x2 x3  nc ns out k hm hc hs KX
    rw [L_Md_count_57_s] at hm
    refine x_ws (ws' := [((ob0 0), .inr (8, [.ref (ob0 1), .ref (ob0 2), .ref (ob0 3), .ref (ob0 4), .ref (ob0 5), .ref (ob0 6), .ref (ob0 7), .ref (ob0 8), .ref (ob0 9), .int (Md_end s0), .int (Md_nodes s0), .ref (ob0 10), .ref (ob0 11), .int (Md_fields s0), .ref (ob0 12), .ref (ob0 13), .int (Md_pushed s0), .ref (ob0 14), .int (Md_touches s0), .ref (ob0 15), .ref (ob0 16), .ref (ob0 17), .ref (ob0 18), .ref (ad0 0), .ref (ad0 1), .int (Md_length s0)])), ((ob0 1), .inl (cA 1, (Md_kinds s0).1, .inl (Md_kinds s0).2)), ((ob0 2), .inl (cA 0, (Md_values s0).1, .inl (Md_values s0).2)), ((ob0 3), .inl (cA 0, (Md_firsts s0).1, .inl (Md_firsts s0).2)), ((ob0 4), .inl (cA 0, (Md_manies s0).1, .inl (Md_manies s0).2)), ((ob0 5), .inl (cA 2, (Md_said s0).1, .inl (Md_said s0).2)), ((ob0 6), .inl (cA 2, (Md_marked s0).1, .inl (Md_marked s0).2)), ((ob0 7), .inl (cA 0, (Md_leaders s0).1, .inl (Md_leaders s0).2)), ((ob0 8), .inl (cA 0, (Md_trial s0).1, .inl (Md_trial s0).2)), ((ob0 9), .inl (cA 0, (Md_shown s0).1, .inl (Md_shown s0).2)), ((ob0 10), .inl (cA 0, (Md_features s0).1, .inl (Md_features s0).2)), ((ob0 11), .inl (cA 0, (Md_parts s0).1, .inl (Md_parts s0).2)), ((ob0 12), .inl (cA 0, (Md_pushedFeatures s0).1, .inl (Md_pushedFeatures s0).2)), ((ob0 13), .inl (cA 0, (Md_pushedParts s0).1, .inl (Md_pushedParts s0).2)), ((ob0 14), .inl (cA 0, (Md_touched s0).1, .inl (Md_touched s0).2)), ((ob0 15), .inl (cA 0, (Md_reached s0).1, .inl (Md_reached s0).2)), ((ob0 16), .inl (cA 0, (Md_blocks s0).1, .inl (Md_blocks s0).2)), ((ob0 17), .inl (cA 0, (Md_newBlocks s0).1, .inl (Md_newBlocks s0).2)), ((ob0 18), .inl (cA 0, (Md_places s0).1, .inl (Md_places s0).2)), ((ad0 0), .inl (cA 0, (Md_written s0).1, .inl (Md_written s0).2)), ((ad0 1), .inl (cA 0, (Md_other s0).1, .inl (Md_other s0).2))]) rfl ?_
    refine x_iload_n F d_Md_count_57 3 rfl rfl ?_
    refine x_aload_n F d_Md_count_58 0 rfl rfl ?_
    refine x_get F ck_Md hin_Md 0 9 rfl (by decide) kw_643 rfl rfl d_Md_count_59 ?_
    refine x_icmp_ge F 112 d_Md_count_62 (by decide) (fun c22 => ?_) (fun c22 => ?_)
    · replace hm := xm_t hm c22
      replace hm := xm_p_some hm
      obtain ⟨eo, c_o, d_o⟩ := hm
      subst eo
      refine x_sub [0, 1, 2, 3, 4, 5, 6, 7, 8, 9, 10, 11, 12, 13, 14, 15, 16, 17, 18, 19, 20] (by decide) ?_ (x_lv [0, 1, 2, 3] ?_ (x_cs (by omega) (by omega) (KX (fun _ => 0))))
      · rfl
      · rfl
    · replace hm := xm_f hm c22
      refine x_iload_n F d_Md_count_65 2 rfl rfl ?_
      refine x_aload_n F d_Md_count_66 0 rfl rfl ?_
      refine x_get F ck_Md hin_Md 0 0 rfl (by decide) kw_634 rfl rfl d_Md_count_67 ?_
      refine x_iload_n F d_Md_count_70 3 rfl rfl ?_
      replace hm := xm_rd_some hm
      obtain ⟨v23, e_v23, b_v23, hm⟩ := hm
      refine x_bald (x := (Md_kinds s0)) F 1 rfl e_v23 b_v23 d_Md_count_71 ?_
      refine x_iconst (v := (-1 : Int32)) F d_Md_count_72 (by decide) ?_
      replace hm := xm_b_some hm
      obtain ⟨j24, k25, k26, h27, hm, c_j24, d_j24⟩ := hm
      refine x_mrg (k1 := k25) (M := 104) (v := j24) (st := [.int x2]) ?_ (fun J => ?_)
      · skip
        refine x_iadd F d_Md_count_104 ?_
        refine x_istore_n (lv' := [(2, .int (x2 + j24)), (0, .ref (ob0 0)), (1, .int y1), (3, .int x3)]) F d_Md_count_105 rfl (by decide) rfl ?_
        refine x_iinc (v := (x3 + 1)) (lv' := [(3, .int (x3 + 1)), (2, .int (x2 + j24)), (0, .ref (ob0 0)), (1, .int y1)]) F d_Md_count_106 3 rfl rfl (by decide) rfl ?_
        refine x_goto F 57 d_Md_count_109 (by decide) ?_
        refine x_sub [0, 1, 2, 3, 4, 5, 6, 7, 8, 9, 10, 11, 12, 13, 14, 15, 16, 17, 18, 19, 20] (by decide) ?_ (x_lv [2, 3, 1, 0] ?_ (ih (x2 + j24) (x3 + 1)  _ _ out k26 hm (by omega) (by omega) (fun ad => x_cs (by omega) (by omega) (KX ad))))
        · rfl
        · rfl
      · replace hm := h27
        refine x_icmp_eq F 103 d_Md_count_73 (by decide) (fun c28 => ?_) (fun c28 => ?_)
        · replace hm := xm_t hm c28
          refine x_iconst (v := (0 : Int32)) F d_Md_count_103 (by decide) ?_
          replace hm := xm_p_some hm
          obtain ⟨eo, c_o, d_o⟩ := hm
          subst eo
          exact x_cs (by omega) (by omega) J
        · replace hm := xm_f hm c28
          refine x_aload_n F d_Md_count_76 0 rfl rfl ?_
          refine x_get F ck_Md hin_Md 0 6 rfl (by decide) kw_640 rfl rfl d_Md_count_77 ?_
          refine x_iload_n F d_Md_count_80 3 rfl rfl ?_
          replace hm := xm_rd_some hm
          obtain ⟨v29, e_v29, b_v29, hm⟩ := hm
          refine x_iald (x := (Md_leaders s0)) F 7 rfl e_v29 b_v29 d_Md_count_81 ?_
          refine x_iload_n F d_Md_count_82 3 rfl rfl ?_
          refine x_icmp_ne F 103 d_Md_count_83 (by decide) (fun c30 => ?_) (fun c30 => ?_)
          · replace hm := xm_f hm c30
            refine x_iconst (v := (0 : Int32)) F d_Md_count_103 (by decide) ?_
            replace hm := xm_p_some hm
            obtain ⟨eo, c_o, d_o⟩ := hm
            subst eo
            exact x_cs (by omega) (by omega) J
          · replace hm := xm_t hm c30
            refine x_aload_n F d_Md_count_86 0 rfl rfl ?_
            refine x_get F ck_Md hin_Md 0 0 rfl (by decide) kw_634 rfl rfl d_Md_count_87 ?_
            refine x_aload_n F d_Md_count_90 0 rfl rfl ?_
            refine x_iload_n F d_Md_count_91 3 rfl rfl ?_
            replace hm := xm_b_some hm
            obtain ⟨o31, k32, k33, h34, hm, c_o31, d_o31⟩ := hm
            refine x_callV (n := 1) (C := R_Md) (wr := []) F (c_Md_meant l D cA n ob0 ad0 s0 x3 o31 k32 h34) kw_786 kw_783 kw_785 kw_27 kw_47 ⟨rfl, by decide, by decide, by decide +kernel⟩ rfl (by decide) (by decide) (ci := 8) rfl rfl 0 rfl [0, 1, 2, 3, 4, 5, 6, 7, 8, 9, 10, 11, 12, 13, 14, 15, 16, 17, 18, 19, 20] [] rfl rfl (by decide) (by decide) (by decide) rfl (Nat.le_of_ble_eq_true rfl) (by omega) (by omega) d_Md_count_92 (fun ad35 => ?_)
            refine x_nf (ws' := [((ob0 0), .inr (8, [.ref (ob0 1), .ref (ob0 2), .ref (ob0 3), .ref (ob0 4), .ref (ob0 5), .ref (ob0 6), .ref (ob0 7), .ref (ob0 8), .ref (ob0 9), .int (Md_end s0), .int (Md_nodes s0), .ref (ob0 10), .ref (ob0 11), .int (Md_fields s0), .ref (ob0 12), .ref (ob0 13), .int (Md_pushed s0), .ref (ob0 14), .int (Md_touches s0), .ref (ob0 15), .ref (ob0 16), .ref (ob0 17), .ref (ob0 18), .ref (ad0 0), .ref (ad0 1), .int (Md_length s0)])), ((ob0 1), .inl (cA 1, (Md_kinds s0).1, .inl (Md_kinds s0).2)), ((ob0 2), .inl (cA 0, (Md_values s0).1, .inl (Md_values s0).2)), ((ob0 3), .inl (cA 0, (Md_firsts s0).1, .inl (Md_firsts s0).2)), ((ob0 4), .inl (cA 0, (Md_manies s0).1, .inl (Md_manies s0).2)), ((ob0 5), .inl (cA 2, (Md_said s0).1, .inl (Md_said s0).2)), ((ob0 6), .inl (cA 2, (Md_marked s0).1, .inl (Md_marked s0).2)), ((ob0 7), .inl (cA 0, (Md_leaders s0).1, .inl (Md_leaders s0).2)), ((ob0 8), .inl (cA 0, (Md_trial s0).1, .inl (Md_trial s0).2)), ((ob0 9), .inl (cA 0, (Md_shown s0).1, .inl (Md_shown s0).2)), ((ob0 10), .inl (cA 0, (Md_features s0).1, .inl (Md_features s0).2)), ((ob0 11), .inl (cA 0, (Md_parts s0).1, .inl (Md_parts s0).2)), ((ob0 12), .inl (cA 0, (Md_pushedFeatures s0).1, .inl (Md_pushedFeatures s0).2)), ((ob0 13), .inl (cA 0, (Md_pushedParts s0).1, .inl (Md_pushedParts s0).2)), ((ob0 14), .inl (cA 0, (Md_touched s0).1, .inl (Md_touched s0).2)), ((ob0 15), .inl (cA 0, (Md_reached s0).1, .inl (Md_reached s0).2)), ((ob0 16), .inl (cA 0, (Md_blocks s0).1, .inl (Md_blocks s0).2)), ((ob0 17), .inl (cA 0, (Md_newBlocks s0).1, .inl (Md_newBlocks s0).2)), ((ob0 18), .inl (cA 0, (Md_places s0).1, .inl (Md_places s0).2)), ((ad0 0), .inl (cA 0, (Md_written s0).1, .inl (Md_written s0).2)), ((ad0 1), .inl (cA 0, (Md_other s0).1, .inl (Md_other s0).2))]) (st' := [.int o31, .ref (ob0 1), .int x2]) rfl rfl ?_
            replace hm := xm_rd_some hm
            obtain ⟨v36, e_v36, b_v36, hm⟩ := hm
            refine x_bald (x := (Md_kinds s0)) F 1 rfl e_v36 b_v36 d_Md_count_95 ?_
            refine x_if_ne F 103 d_Md_count_96 (by decide) (fun c37 => ?_) (fun c37 => ?_)
            · replace hm := xm_f hm c37
              refine x_iconst (v := (0 : Int32)) F d_Md_count_103 (by decide) ?_
              replace hm := xm_p_some hm
              obtain ⟨eo, c_o, d_o⟩ := hm
              subst eo
              exact x_cs (by omega) (by omega) J
            · replace hm := xm_t hm c37
              refine x_iconst (v := (1 : Int32)) F d_Md_count_99 (by decide) ?_
              refine x_goto F 104 d_Md_count_100 (by decide) ?_
              replace hm := xm_p_some hm
              obtain ⟨eo, c_o, d_o⟩ := hm
              subst eo
              exact x_cs (by omega) (by omega) J
set_option maxHeartbeats 4000000 in
set_option maxRecDepth 100000 in
theorem wl_Md_count_121 {X : XT} {l : Launch} {D : va_G} {cA : Nat → ClassId} {mc ms : Nat} (F : XF X l D cA b_Md_count 4 (some FieldType.int) R_Md 1 22 mc ms) (n : Nat) (ob0 : Nat → Nat) (y1 : Int32) (s0 : S_Md)  (ad0 : Nat → Nat) : ∀ (i : Nat) (x2 : Int32) (x3 : Int32)  (nc ns : Nat) (out : Int32 × Int32) (k : KC), L_Md_count_121 y1 s0 n i x2 x3 = some (out, k) → nc + k.1 ≤ mc → ns + k.2 ≤ ms → (∀ ad : Nat → Nat, XW X 4 ((w_Md cA ob0 ad0  s0)) (nc + k.1) (ns + k.2) 162 [(0, .ref (ob0 0)), (1, .int y1), (2, .int (out.1)), (3, .int (out.2))] []) → XW X 4 ((w_Md cA ob0 ad0  s0)) nc ns 121 [(0, .ref (ob0 0)), (1, .int y1), (2, .int x2), (3, .int x3)] [] := by
  intro i
  induction i with
  | zero =>
    intro x2 x3  nc ns out k hm
    replace hm : (none : MO (Int32 × Int32)) = some (out, k) := hm
    cases hm
  | succ i ih =>
    intro x2 x3  nc ns out k hm hc hs KX
    rw [L_Md_count_121_s] at hm
    refine x_ws (ws' := [((ob0 0), .inr (8, [.ref (ob0 1), .ref (ob0 2), .ref (ob0 3), .ref (ob0 4), .ref (ob0 5), .ref (ob0 6), .ref (ob0 7), .ref (ob0 8), .ref (ob0 9), .int (Md_end s0), .int (Md_nodes s0), .ref (ob0 10), .ref (ob0 11), .int (Md_fields s0), .ref (ob0 12), .ref (ob0 13), .int (Md_pushed s0), .ref (ob0 14), .int (Md_touches s0), .ref (ob0 15), .ref (ob0 16), .ref (ob0 17), .ref (ob0 18), .ref (ad0 0), .ref (ad0 1), .int (Md_length s0)])), ((ob0 1), .inl (cA 1, (Md_kinds s0).1, .inl (Md_kinds s0).2)), ((ob0 2), .inl (cA 0, (Md_values s0).1, .inl (Md_values s0).2)), ((ob0 3), .inl (cA 0, (Md_firsts s0).1, .inl (Md_firsts s0).2)), ((ob0 4), .inl (cA 0, (Md_manies s0).1, .inl (Md_manies s0).2)), ((ob0 5), .inl (cA 2, (Md_said s0).1, .inl (Md_said s0).2)), ((ob0 6), .inl (cA 2, (Md_marked s0).1, .inl (Md_marked s0).2)), ((ob0 7), .inl (cA 0, (Md_leaders s0).1, .inl (Md_leaders s0).2)), ((ob0 8), .inl (cA 0, (Md_trial s0).1, .inl (Md_trial s0).2)), ((ob0 9), .inl (cA 0, (Md_shown s0).1, .inl (Md_shown s0).2)), ((ob0 10), .inl (cA 0, (Md_features s0).1, .inl (Md_features s0).2)), ((ob0 11), .inl (cA 0, (Md_parts s0).1, .inl (Md_parts s0).2)), ((ob0 12), .inl (cA 0, (Md_pushedFeatures s0).1, .inl (Md_pushedFeatures s0).2)), ((ob0 13), .inl (cA 0, (Md_pushedParts s0).1, .inl (Md_pushedParts s0).2)), ((ob0 14), .inl (cA 0, (Md_touched s0).1, .inl (Md_touched s0).2)), ((ob0 15), .inl (cA 0, (Md_reached s0).1, .inl (Md_reached s0).2)), ((ob0 16), .inl (cA 0, (Md_blocks s0).1, .inl (Md_blocks s0).2)), ((ob0 17), .inl (cA 0, (Md_newBlocks s0).1, .inl (Md_newBlocks s0).2)), ((ob0 18), .inl (cA 0, (Md_places s0).1, .inl (Md_places s0).2)), ((ad0 0), .inl (cA 0, (Md_written s0).1, .inl (Md_written s0).2)), ((ad0 1), .inl (cA 0, (Md_other s0).1, .inl (Md_other s0).2))]) rfl ?_
    refine x_iload_n F d_Md_count_121 3 rfl rfl ?_
    refine x_aload_n F d_Md_count_122 0 rfl rfl ?_
    refine x_get F ck_Md hin_Md 0 9 rfl (by decide) kw_643 rfl rfl d_Md_count_123 ?_
    refine x_icmp_ge F 162 d_Md_count_126 (by decide) (fun c45 => ?_) (fun c45 => ?_)
    · replace hm := xm_t hm c45
      replace hm := xm_p_some hm
      obtain ⟨eo, c_o, d_o⟩ := hm
      subst eo
      refine x_sub [0, 1, 2, 3, 4, 5, 6, 7, 8, 9, 10, 11, 12, 13, 14, 15, 16, 17, 18, 19, 20] (by decide) ?_ (x_lv [0, 1, 2, 3] ?_ (x_cs (by omega) (by omega) (KX (fun _ => 0))))
      · rfl
      · rfl
    · replace hm := xm_f hm c45
      refine x_iload_n F d_Md_count_129 2 rfl rfl ?_
      refine x_aload_n F d_Md_count_130 0 rfl rfl ?_
      refine x_get F ck_Md hin_Md 0 0 rfl (by decide) kw_634 rfl rfl d_Md_count_131 ?_
      refine x_iload_n F d_Md_count_134 3 rfl rfl ?_
      replace hm := xm_rd_some hm
      obtain ⟨v46, e_v46, b_v46, hm⟩ := hm
      refine x_bald (x := (Md_kinds s0)) F 1 rfl e_v46 b_v46 d_Md_count_135 ?_
      refine x_iconst (v := (-1 : Int32)) F d_Md_count_136 (by decide) ?_
      replace hm := xm_b_some hm
      obtain ⟨j47, k48, k49, h50, hm, c_j47, d_j47⟩ := hm
      refine x_mrg (k1 := k48) (M := 154) (v := j47) (st := [.int x2]) ?_ (fun J => ?_)
      · skip
        refine x_iadd F d_Md_count_154 ?_
        refine x_istore_n (lv' := [(2, .int (x2 + j47)), (0, .ref (ob0 0)), (1, .int y1), (3, .int x3)]) F d_Md_count_155 rfl (by decide) rfl ?_
        refine x_iinc (v := (x3 + 1)) (lv' := [(3, .int (x3 + 1)), (2, .int (x2 + j47)), (0, .ref (ob0 0)), (1, .int y1)]) F d_Md_count_156 3 rfl rfl (by decide) rfl ?_
        refine x_goto F 121 d_Md_count_159 (by decide) ?_
        refine x_sub [0, 1, 2, 3, 4, 5, 6, 7, 8, 9, 10, 11, 12, 13, 14, 15, 16, 17, 18, 19, 20] (by decide) ?_ (x_lv [2, 3, 1, 0] ?_ (ih (x2 + j47) (x3 + 1)  _ _ out k49 hm (by omega) (by omega) (fun ad => x_cs (by omega) (by omega) (KX ad))))
        · rfl
        · rfl
      · replace hm := h50
        refine x_icmp_eq F 153 d_Md_count_137 (by decide) (fun c51 => ?_) (fun c51 => ?_)
        · replace hm := xm_t hm c51
          refine x_iconst (v := (0 : Int32)) F d_Md_count_153 (by decide) ?_
          replace hm := xm_p_some hm
          obtain ⟨eo, c_o, d_o⟩ := hm
          subst eo
          exact x_cs (by omega) (by omega) J
        · replace hm := xm_f hm c51
          refine x_aload_n F d_Md_count_140 0 rfl rfl ?_
          refine x_get F ck_Md hin_Md 0 5 rfl (by decide) kw_639 rfl rfl d_Md_count_141 ?_
          refine x_iload_n F d_Md_count_144 3 rfl rfl ?_
          replace hm := xm_rd_some hm
          obtain ⟨v52, e_v52, b_v52, hm⟩ := hm
          refine x_zald (x := (Md_marked s0)) F 6 rfl e_v52 b_v52 d_Md_count_145 ?_
          refine x_if_eq F 153 d_Md_count_146 (by decide) (fun c53 => ?_) (fun c53 => ?_)
          · replace hm := xm_t hm c53
            refine x_iconst (v := (0 : Int32)) F d_Md_count_153 (by decide) ?_
            replace hm := xm_p_some hm
            obtain ⟨eo, c_o, d_o⟩ := hm
            subst eo
            exact x_cs (by omega) (by omega) J
          · replace hm := xm_f hm c53
            refine x_iconst (v := (1 : Int32)) F d_Md_count_149 (by decide) ?_
            refine x_goto F 154 d_Md_count_150 (by decide) ?_
            replace hm := xm_p_some hm
            obtain ⟨eo, c_o, d_o⟩ := hm
            subst eo
            exact x_cs (by omega) (by omega) J
set_option maxHeartbeats 4000000 in
set_option maxRecDepth 100000 in
theorem c_Md_count (l : Launch) (D : va_G) (cA : Nat → ClassId) (n : Nat) (ob0 ad0 : Nat → Nat) (s0 : S_Md) (p0 : Int32) (out : Int32) (k : KC) (hm : m_Md_count n s0 p0 = some (out, k)) : XM l D cA y_Md_count b_Md_count 4 (some FieldType.int) 1 22 [.ref (ob0 0), .int p0] ((w_Md cA ob0 ad0  s0)) k (fun _ => some (.int out)) (fun ad => (w_Md cA ob0 ad0  s0)) := by
  refine x_met (cc := b_Md_count) (nL := 4) (ret := (some FieldType.int)) R_Md (by decide) (Nat.le_of_ble_eq_true rfl) rfl (fun X F I E => ?_)
  unfold m_Md_count at hm
  refine x_nf2 (ws' := [((ob0 0), .inr (8, [.ref (ob0 1), .ref (ob0 2), .ref (ob0 3), .ref (ob0 4), .ref (ob0 5), .ref (ob0 6), .ref (ob0 7), .ref (ob0 8), .ref (ob0 9), .int (Md_end s0), .int (Md_nodes s0), .ref (ob0 10), .ref (ob0 11), .int (Md_fields s0), .ref (ob0 12), .ref (ob0 13), .int (Md_pushed s0), .ref (ob0 14), .int (Md_touches s0), .ref (ob0 15), .ref (ob0 16), .ref (ob0 17), .ref (ob0 18), .ref (ad0 0), .ref (ad0 1), .int (Md_length s0)])), ((ob0 1), .inl (cA 1, (Md_kinds s0).1, .inl (Md_kinds s0).2)), ((ob0 2), .inl (cA 0, (Md_values s0).1, .inl (Md_values s0).2)), ((ob0 3), .inl (cA 0, (Md_firsts s0).1, .inl (Md_firsts s0).2)), ((ob0 4), .inl (cA 0, (Md_manies s0).1, .inl (Md_manies s0).2)), ((ob0 5), .inl (cA 2, (Md_said s0).1, .inl (Md_said s0).2)), ((ob0 6), .inl (cA 2, (Md_marked s0).1, .inl (Md_marked s0).2)), ((ob0 7), .inl (cA 0, (Md_leaders s0).1, .inl (Md_leaders s0).2)), ((ob0 8), .inl (cA 0, (Md_trial s0).1, .inl (Md_trial s0).2)), ((ob0 9), .inl (cA 0, (Md_shown s0).1, .inl (Md_shown s0).2)), ((ob0 10), .inl (cA 0, (Md_features s0).1, .inl (Md_features s0).2)), ((ob0 11), .inl (cA 0, (Md_parts s0).1, .inl (Md_parts s0).2)), ((ob0 12), .inl (cA 0, (Md_pushedFeatures s0).1, .inl (Md_pushedFeatures s0).2)), ((ob0 13), .inl (cA 0, (Md_pushedParts s0).1, .inl (Md_pushedParts s0).2)), ((ob0 14), .inl (cA 0, (Md_touched s0).1, .inl (Md_touched s0).2)), ((ob0 15), .inl (cA 0, (Md_reached s0).1, .inl (Md_reached s0).2)), ((ob0 16), .inl (cA 0, (Md_blocks s0).1, .inl (Md_blocks s0).2)), ((ob0 17), .inl (cA 0, (Md_newBlocks s0).1, .inl (Md_newBlocks s0).2)), ((ob0 18), .inl (cA 0, (Md_places s0).1, .inl (Md_places s0).2)), ((ad0 0), .inl (cA 0, (Md_written s0).1, .inl (Md_written s0).2)), ((ad0 1), .inl (cA 0, (Md_other s0).1, .inl (Md_other s0).2))]) (lv' := [(0, .ref (ob0 0)), (1, .int p0)]) rfl rfl ?_
  refine x_iconst (v := (0 : Int32)) F d_Md_count_0 (by decide) ?_
  refine x_istore_n (lv' := [(2, .int (0 : Int32)), (0, .ref (ob0 0)), (1, .int p0)]) F d_Md_count_1 rfl (by decide) rfl ?_
  refine x_iload_n F d_Md_count_2 2 rfl rfl ?_
  by_cases c18 : p0 = (0 : Int32)
  · replace hm := xm_t hm c18
    refine x_tableIn F 40 d_Md_count_3 (by rw [c18]; decide) (by rw [c18]; decide) (by rw [c18]; rfl) (by decide) ?_
    refine x_aload_n F d_Md_count_40 1 rfl rfl ?_
    refine x_get F ck_Md hin_Md 0 10 rfl (by decide) kw_644 rfl rfl d_Md_count_41 ?_
    replace hm := xm_p_some hm
    obtain ⟨eo, c_o, d_o⟩ := hm
    subst eo
    refine x_sub [0, 1, 2, 3, 4, 5, 6, 7, 8, 9, 10, 11, 12, 13, 14, 15, 16, 17, 18, 19, 20] (by decide) ?_ (xe_i E (fun _ => 0) (by omega) (by omega) rfl (xz_i _) d_Md_count_44)
    rfl
  replace hm := xm_f hm c18
  by_cases c19 : p0 = (1 : Int32)
  · replace hm := xm_t hm c19
    refine x_tableIn F 45 d_Md_count_3 (by rw [c19]; decide) (by rw [c19]; decide) (by rw [c19]; rfl) (by decide) ?_
    refine x_aload_n F d_Md_count_45 1 rfl rfl ?_
    refine x_get F ck_Md hin_Md 0 13 rfl (by decide) kw_647 rfl rfl d_Md_count_46 ?_
    replace hm := xm_p_some hm
    obtain ⟨eo, c_o, d_o⟩ := hm
    subst eo
    refine x_sub [0, 1, 2, 3, 4, 5, 6, 7, 8, 9, 10, 11, 12, 13, 14, 15, 16, 17, 18, 19, 20] (by decide) ?_ (xe_i E (fun _ => 0) (by omega) (by omega) rfl (xz_i _) d_Md_count_49)
    rfl
  replace hm := xm_f hm c19
  by_cases c20 : p0 = (2 : Int32)
  · replace hm := xm_t hm c20
    refine x_tableIn F 50 d_Md_count_3 (by rw [c20]; decide) (by rw [c20]; decide) (by rw [c20]; rfl) (by decide) ?_
    refine x_aload_n F d_Md_count_50 1 rfl rfl ?_
    refine x_get F ck_Md hin_Md 0 16 rfl (by decide) kw_650 rfl rfl d_Md_count_51 ?_
    replace hm := xm_p_some hm
    obtain ⟨eo, c_o, d_o⟩ := hm
    subst eo
    refine x_sub [0, 1, 2, 3, 4, 5, 6, 7, 8, 9, 10, 11, 12, 13, 14, 15, 16, 17, 18, 19, 20] (by decide) ?_ (xe_i E (fun _ => 0) (by omega) (by omega) rfl (xz_i _) d_Md_count_54)
    rfl
  replace hm := xm_f hm c20
  by_cases c21 : p0 = (3 : Int32)
  · replace hm := xm_t hm c21
    refine x_tableIn F 55 d_Md_count_3 (by rw [c21]; decide) (by rw [c21]; decide) (by rw [c21]; rfl) (by decide) ?_
    refine x_iconst (v := (0 : Int32)) F d_Md_count_55 (by decide) ?_
    refine x_istore_n (lv' := [(3, .int (0 : Int32)), (2, .int (0 : Int32)), (0, .ref (ob0 0)), (1, .int p0)]) F d_Md_count_56 rfl (by decide) rfl ?_
    replace hm := xm_b_some hm
    obtain ⟨o38, k39, k40, h41, hm, c_o38, d_o38⟩ := hm
    refine x_sub [0, 1, 2, 3, 4, 5, 6, 7, 8, 9, 10, 11, 12, 13, 14, 15, 16, 17, 18, 19, 20] (by decide) ?_ (x_lv [2, 3, 1, 0] ?_ (wl_Md_count_57 F n ob0 p0 s0 ad0 n (0 : Int32) (0 : Int32)  _ _ o38 k39 h41 (by omega) (by omega) (fun ad42 => ?_)))
    · rfl
    · rfl
    refine x_nf2 (ws' := [((ob0 0), .inr (8, [.ref (ob0 1), .ref (ob0 2), .ref (ob0 3), .ref (ob0 4), .ref (ob0 5), .ref (ob0 6), .ref (ob0 7), .ref (ob0 8), .ref (ob0 9), .int (Md_end s0), .int (Md_nodes s0), .ref (ob0 10), .ref (ob0 11), .int (Md_fields s0), .ref (ob0 12), .ref (ob0 13), .int (Md_pushed s0), .ref (ob0 14), .int (Md_touches s0), .ref (ob0 15), .ref (ob0 16), .ref (ob0 17), .ref (ob0 18), .ref (ad0 0), .ref (ad0 1), .int (Md_length s0)])), ((ob0 1), .inl (cA 1, (Md_kinds s0).1, .inl (Md_kinds s0).2)), ((ob0 2), .inl (cA 0, (Md_values s0).1, .inl (Md_values s0).2)), ((ob0 3), .inl (cA 0, (Md_firsts s0).1, .inl (Md_firsts s0).2)), ((ob0 4), .inl (cA 0, (Md_manies s0).1, .inl (Md_manies s0).2)), ((ob0 5), .inl (cA 2, (Md_said s0).1, .inl (Md_said s0).2)), ((ob0 6), .inl (cA 2, (Md_marked s0).1, .inl (Md_marked s0).2)), ((ob0 7), .inl (cA 0, (Md_leaders s0).1, .inl (Md_leaders s0).2)), ((ob0 8), .inl (cA 0, (Md_trial s0).1, .inl (Md_trial s0).2)), ((ob0 9), .inl (cA 0, (Md_shown s0).1, .inl (Md_shown s0).2)), ((ob0 10), .inl (cA 0, (Md_features s0).1, .inl (Md_features s0).2)), ((ob0 11), .inl (cA 0, (Md_parts s0).1, .inl (Md_parts s0).2)), ((ob0 12), .inl (cA 0, (Md_pushedFeatures s0).1, .inl (Md_pushedFeatures s0).2)), ((ob0 13), .inl (cA 0, (Md_pushedParts s0).1, .inl (Md_pushedParts s0).2)), ((ob0 14), .inl (cA 0, (Md_touched s0).1, .inl (Md_touched s0).2)), ((ob0 15), .inl (cA 0, (Md_reached s0).1, .inl (Md_reached s0).2)), ((ob0 16), .inl (cA 0, (Md_blocks s0).1, .inl (Md_blocks s0).2)), ((ob0 17), .inl (cA 0, (Md_newBlocks s0).1, .inl (Md_newBlocks s0).2)), ((ob0 18), .inl (cA 0, (Md_places s0).1, .inl (Md_places s0).2)), ((ad0 0), .inl (cA 0, (Md_written s0).1, .inl (Md_written s0).2)), ((ad0 1), .inl (cA 0, (Md_other s0).1, .inl (Md_other s0).2))]) (lv' := [(0, .ref (ob0 0)), (1, .int p0), (2, .int (o38.1)), (3, .int (o38.2))]) rfl rfl ?_
    refine x_iload_n F d_Md_count_112 2 rfl rfl ?_
    replace hm := xm_p_some hm
    obtain ⟨eo, c_o, d_o⟩ := hm
    subst eo
    refine x_sub [0, 1, 2, 3, 4, 5, 6, 7, 8, 9, 10, 11, 12, 13, 14, 15, 16, 17, 18, 19, 20] (by decide) ?_ (xe_i E (fun _ => 0) (by omega) (by omega) rfl (xz_i _) d_Md_count_113)
    rfl
  replace hm := xm_f hm c21
  by_cases c43 : p0 = (4 : Int32)
  · replace hm := xm_t hm c43
    refine x_tableIn F 114 d_Md_count_3 (by rw [c43]; decide) (by rw [c43]; decide) (by rw [c43]; rfl) (by decide) ?_
    refine x_aload_n F d_Md_count_114 1 rfl rfl ?_
    refine x_get F ck_Md hin_Md 0 18 rfl (by decide) kw_652 rfl rfl d_Md_count_115 ?_
    replace hm := xm_p_some hm
    obtain ⟨eo, c_o, d_o⟩ := hm
    subst eo
    refine x_sub [0, 1, 2, 3, 4, 5, 6, 7, 8, 9, 10, 11, 12, 13, 14, 15, 16, 17, 18, 19, 20] (by decide) ?_ (xe_i E (fun _ => 0) (by omega) (by omega) rfl (xz_i _) d_Md_count_118)
    rfl
  replace hm := xm_f hm c43
  by_cases c44 : p0 = (5 : Int32)
  · replace hm := xm_t hm c44
    refine x_tableIn F 119 d_Md_count_3 (by rw [c44]; decide) (by rw [c44]; decide) (by rw [c44]; rfl) (by decide) ?_
    refine x_iconst (v := (0 : Int32)) F d_Md_count_119 (by decide) ?_
    refine x_istore_n (lv' := [(3, .int (0 : Int32)), (2, .int (0 : Int32)), (0, .ref (ob0 0)), (1, .int p0)]) F d_Md_count_120 rfl (by decide) rfl ?_
    replace hm := xm_b_some hm
    obtain ⟨o54, k55, k56, h57, hm, c_o54, d_o54⟩ := hm
    refine x_sub [0, 1, 2, 3, 4, 5, 6, 7, 8, 9, 10, 11, 12, 13, 14, 15, 16, 17, 18, 19, 20] (by decide) ?_ (x_lv [2, 3, 1, 0] ?_ (wl_Md_count_121 F n ob0 p0 s0 ad0 n (0 : Int32) (0 : Int32)  _ _ o54 k55 h57 (by omega) (by omega) (fun ad58 => ?_)))
    · rfl
    · rfl
    refine x_nf2 (ws' := [((ob0 0), .inr (8, [.ref (ob0 1), .ref (ob0 2), .ref (ob0 3), .ref (ob0 4), .ref (ob0 5), .ref (ob0 6), .ref (ob0 7), .ref (ob0 8), .ref (ob0 9), .int (Md_end s0), .int (Md_nodes s0), .ref (ob0 10), .ref (ob0 11), .int (Md_fields s0), .ref (ob0 12), .ref (ob0 13), .int (Md_pushed s0), .ref (ob0 14), .int (Md_touches s0), .ref (ob0 15), .ref (ob0 16), .ref (ob0 17), .ref (ob0 18), .ref (ad0 0), .ref (ad0 1), .int (Md_length s0)])), ((ob0 1), .inl (cA 1, (Md_kinds s0).1, .inl (Md_kinds s0).2)), ((ob0 2), .inl (cA 0, (Md_values s0).1, .inl (Md_values s0).2)), ((ob0 3), .inl (cA 0, (Md_firsts s0).1, .inl (Md_firsts s0).2)), ((ob0 4), .inl (cA 0, (Md_manies s0).1, .inl (Md_manies s0).2)), ((ob0 5), .inl (cA 2, (Md_said s0).1, .inl (Md_said s0).2)), ((ob0 6), .inl (cA 2, (Md_marked s0).1, .inl (Md_marked s0).2)), ((ob0 7), .inl (cA 0, (Md_leaders s0).1, .inl (Md_leaders s0).2)), ((ob0 8), .inl (cA 0, (Md_trial s0).1, .inl (Md_trial s0).2)), ((ob0 9), .inl (cA 0, (Md_shown s0).1, .inl (Md_shown s0).2)), ((ob0 10), .inl (cA 0, (Md_features s0).1, .inl (Md_features s0).2)), ((ob0 11), .inl (cA 0, (Md_parts s0).1, .inl (Md_parts s0).2)), ((ob0 12), .inl (cA 0, (Md_pushedFeatures s0).1, .inl (Md_pushedFeatures s0).2)), ((ob0 13), .inl (cA 0, (Md_pushedParts s0).1, .inl (Md_pushedParts s0).2)), ((ob0 14), .inl (cA 0, (Md_touched s0).1, .inl (Md_touched s0).2)), ((ob0 15), .inl (cA 0, (Md_reached s0).1, .inl (Md_reached s0).2)), ((ob0 16), .inl (cA 0, (Md_blocks s0).1, .inl (Md_blocks s0).2)), ((ob0 17), .inl (cA 0, (Md_newBlocks s0).1, .inl (Md_newBlocks s0).2)), ((ob0 18), .inl (cA 0, (Md_places s0).1, .inl (Md_places s0).2)), ((ad0 0), .inl (cA 0, (Md_written s0).1, .inl (Md_written s0).2)), ((ad0 1), .inl (cA 0, (Md_other s0).1, .inl (Md_other s0).2))]) (lv' := [(0, .ref (ob0 0)), (1, .int p0), (2, .int (o54.1)), (3, .int (o54.2))]) rfl rfl ?_
    refine x_iload_n F d_Md_count_162 2 rfl rfl ?_
    replace hm := xm_p_some hm
    obtain ⟨eo, c_o, d_o⟩ := hm
    subst eo
    refine x_sub [0, 1, 2, 3, 4, 5, 6, 7, 8, 9, 10, 11, 12, 13, 14, 15, 16, 17, 18, 19, 20] (by decide) ?_ (xe_i E (fun _ => 0) (by omega) (by omega) rfl (xz_i _) d_Md_count_163)
    rfl
  replace hm := xm_f hm c44
  refine x_tableOut F 164 d_Md_count_3 (by have := lv_neT c18 (show (0 : Int32).toInt = 0 from by decide); have := lv_neT c19 (show (1 : Int32).toInt = 1 from by decide); have := lv_neT c20 (show (2 : Int32).toInt = 2 from by decide); have := lv_neT c21 (show (3 : Int32).toInt = 3 from by decide); have := lv_neT c43 (show (4 : Int32).toInt = 4 from by decide); have := lv_neT c44 (show (5 : Int32).toInt = 5 from by decide); omega) (by decide) ?_
  refine x_iconst (v := (-1 : Int32)) F d_Md_count_164 (by decide) ?_
  replace hm := xm_p_some hm
  obtain ⟨eo, c_o, d_o⟩ := hm
  subst eo
  refine x_sub [0, 1, 2, 3, 4, 5, 6, 7, 8, 9, 10, 11, 12, 13, 14, 15, 16, 17, 18, 19, 20] (by decide) ?_ (xe_i E (fun _ => 0) (by omega) (by omega) rfl (xz_i _) d_Md_count_165)
  rfl
