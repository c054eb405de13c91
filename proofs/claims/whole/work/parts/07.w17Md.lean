noncomputable def L_Md_makeOf_43 (y1 : Int32) (y2 : Int32) (y3 : Int32) (n i : Nat) : Int32 → S_Md → MO (Int32 × S_Md) := Nat.rec (motive := fun _ => Int32 → S_Md → MO (Int32 × S_Md)) (fun _ _ => none) (fun _ ih x4 s0 => (if (Md_pushed s0) ≤ x4 then (xm_p ((x4, s0))) else (xm_rd (Md_pushedFeatures s0) x4 (fun v23 => (xm_wr (Md_features s0) (Md_fields s0) v23 (fun a24 => (xm_rd (Md_pushedParts s0) x4 (fun v25 => (xm_wr (Md_parts s0) (Md_fields s0) v25 (fun a26 => (ih (x4 + 1) ((Md_kinds s0), (Md_values s0), (Md_firsts s0), (Md_manies s0), (Md_said s0), (Md_marked s0), (Md_leaders s0), (Md_trial s0), (Md_shown s0), (Md_end s0), (Md_nodes s0), a24, a26, ((Md_fields s0) + (1 : Int32)), (Md_pushedFeatures s0), (Md_pushedParts s0), (Md_pushed s0), (Md_touched s0), (Md_touches s0), (Md_reached s0), (Md_blocks s0), (Md_newBlocks s0), (Md_places s0), (Md_written s0), (Md_other s0), (Md_length s0))))))))))))) i
theorem L_Md_makeOf_43_s (y1 : Int32) (y2 : Int32) (y3 : Int32) (n i : Nat) (x4 : Int32) (s0 : S_Md) : L_Md_makeOf_43 y1 y2 y3 n (i + 1) x4 s0 = (if (Md_pushed s0) ≤ x4 then (xm_p ((x4, s0))) else (xm_rd (Md_pushedFeatures s0) x4 (fun v23 => (xm_wr (Md_features s0) (Md_fields s0) v23 (fun a24 => (xm_rd (Md_pushedParts s0) x4 (fun v25 => (xm_wr (Md_parts s0) (Md_fields s0) v25 (fun a26 => (L_Md_makeOf_43 y1 y2 y3 n i (x4 + 1) ((Md_kinds s0), (Md_values s0), (Md_firsts s0), (Md_manies s0), (Md_said s0), (Md_marked s0), (Md_leaders s0), (Md_trial s0), (Md_shown s0), (Md_end s0), (Md_nodes s0), a24, a26, ((Md_fields s0) + (1 : Int32)), (Md_pushedFeatures s0), (Md_pushedParts s0), (Md_pushed s0), (Md_touched s0), (Md_touches s0), (Md_reached s0), (Md_blocks s0), (Md_newBlocks s0), (Md_places s0), (Md_written s0), (Md_other s0), (Md_length s0)))))))))))) := rfl
noncomputable def m_Md_makeOf (n : Nat) (s0 : S_Md) (p0 : Int32) (p1 : Int32) : MO (Int32 × S_Md) := (if ((Md_fields s0) + (Md_pushed s0)) ≤ (65536 : Int32) then (xm_b (m_Md_make n s0 p0 p1) (fun o15 => (if 0 ≤ (o15.1) then (xm_wr (Md_manies (o15.2)) (o15.1) (Md_pushed (o15.2)) (fun a21 => (xm_b (L_Md_makeOf_43 p0 p1 (o15.1) n n (0 : Int32) ((Md_kinds (o15.2)), (Md_values (o15.2)), (Md_firsts (o15.2)), a21, (Md_said (o15.2)), (Md_marked (o15.2)), (Md_leaders (o15.2)), (Md_trial (o15.2)), (Md_shown (o15.2)), (Md_end (o15.2)), (Md_nodes (o15.2)), (Md_features (o15.2)), (Md_parts (o15.2)), (Md_fields (o15.2)), (Md_pushedFeatures (o15.2)), (Md_pushedParts (o15.2)), (Md_pushed (o15.2)), (Md_touched (o15.2)), (Md_touches (o15.2)), (Md_reached (o15.2)), (Md_blocks (o15.2)), (Md_newBlocks (o15.2)), (Md_places (o15.2)), (Md_written (o15.2)), (Md_other (o15.2)), (Md_length (o15.2)))) (fun o27 => (xm_p ((o15.1), ((Md_kinds (o27.2)), (Md_values (o27.2)), (Md_firsts (o27.2)), (Md_manies (o27.2)), (Md_said (o27.2)), (Md_marked (o27.2)), (Md_leaders (o27.2)), (Md_trial (o27.2)), (Md_shown (o27.2)), (Md_end (o27.2)), (Md_nodes (o27.2)), (Md_features (o27.2)), (Md_parts (o27.2)), (Md_fields (o27.2)), (Md_pushedFeatures (o27.2)), (Md_pushedParts (o27.2)), (0 : Int32), (Md_touched (o27.2)), (Md_touches (o27.2)), (Md_reached (o27.2)), (Md_blocks (o27.2)), (Md_newBlocks (o27.2)), (Md_places (o27.2)), (Md_written (o27.2)), (Md_other (o27.2)), (Md_length (o27.2))))))))) else (xm_p ((o15.1), (o15.2)))))) else (xm_p ((-2 : Int32), s0)))
set_option maxHeartbeats 4000000 in
set_option maxRecDepth 100000 in
theorem wl_Md_makeOf_43 {X : XT} {l : Launch} {D : va_G} {cA : Nat → ClassId} {mc ms : Nat} (F : XF X l D cA b_Md_makeOf 5 (some FieldType.int) R_Md 2 44 mc ms) (n : Nat) (ob0 : Nat → Nat) (y1 : Int32) (y2 : Int32) (y3 : Int32)  : ∀ (i : Nat) (x4 : Int32) (s0 : S_Md) (ad0 : Nat → Nat) (nc ns : Nat) (out : Int32 × S_Md) (k : KC), L_Md_makeOf_43 y1 y2 y3 n i x4 s0 = some (out, k) → nc + k.1 ≤ mc → ns + k.2 ≤ ms → (∀ ad : Nat → Nat, XW X 5 ((w_Md cA ob0 ad  (out.2))) (nc + k.1) (ns + k.2) 100 [(0, .ref (ob0 0)), (1, .int y1), (2, .int y2), (3, .int y3), (4, .int (out.1))] []) → XW X 5 ((w_Md cA ob0 ad0  s0)) nc ns 43 [(0, .ref (ob0 0)), (1, .int y1), (2, .int y2), (3, .int y3), (4, .int x4)] [] := by
  intro i
  induction i with
  | zero =>
    intro x4 s0 ad0 nc ns out k hm
    replace hm : (none : MO (Int32 × S_Md)) = some (out, k) := hm
    cases hm
  | succ i ih =>
    intro x4 s0 ad0 nc ns out k hm hc hs KX
    rw [L_Md_makeOf_43_s] at hm
    refine x_ws (ws' := [((ob0 0), .inr (8, [.ref (ob0 1), .ref (ob0 2), .ref (ob0 3), .ref (ob0 4), .ref (ob0 5), .ref (ob0 6), .ref (ob0 7), .ref (ob0 8), .ref (ob0 9), .int (Md_end s0), .int (Md_nodes s0), .ref (ob0 10), .ref (ob0 11), .int (Md_fields s0), .ref (ob0 12), .ref (ob0 13), .int (Md_pushed s0), .ref (ob0 14), .int (Md_touches s0), .ref (ob0 15), .ref (ob0 16), .ref (ob0 17), .ref (ob0 18), .ref (ad0 0), .ref (ad0 1), .int (Md_length s0)])), ((ob0 1), .inl (cA 1, (Md_kinds s0).1, .inl (Md_kinds s0).2)), ((ob0 2), .inl (cA 0, (Md_values s0).1, .inl (Md_values s0).2)), ((ob0 3), .inl (cA 0, (Md_firsts s0).1, .inl (Md_firsts s0).2)), ((ob0 4), .inl (cA 0, (Md_manies s0).1, .inl (Md_manies s0).2)), ((ob0 5), .inl (cA 2, (Md_said s0).1, .inl (Md_said s0).2)), ((ob0 6), .inl (cA 2, (Md_marked s0).1, .inl (Md_marked s0).2)), ((ob0 7), .inl (cA 0, (Md_leaders s0).1, .inl (Md_leaders s0).2)), ((ob0 8), .inl (cA 0, (Md_trial s0).1, .inl (Md_trial s0).2)), ((ob0 9), .inl (cA 0, (Md_shown s0).1, .inl (Md_shown s0).2)), ((ob0 10), .inl (cA 0, (Md_features s0).1, .inl (Md_features s0).2)), ((ob0 11), .inl (cA 0, (Md_parts s0).1, .inl (Md_parts s0).2)), ((ob0 12), .inl (cA 0, (Md_pushedFeatures s0).1, .inl (Md_pushedFeatures s0).2)), ((ob0 13), .inl (cA 0, (Md_pushedParts s0).1, .inl (Md_pushedParts s0).2)), ((ob0 14), .inl (cA 0, (Md_touched s0).1, .inl (Md_touched s0).2)), ((ob0 15), .inl (cA 0, (Md_reached s0).1, .inl (Md_reached s0).2)), ((ob0 16), .inl (cA 0, (Md_blocks s0).1, .inl (Md_blocks s0).2)), ((ob0 17), .inl (cA 0, (Md_newBlocks s0).1, .inl (Md_newBlocks s0).2)), ((ob0 18), .inl (cA 0, (Md_places s0).1, .inl (Md_places s0).2)), ((ad0 0), .inl (cA 0, (Md_written s0).1, .inl (Md_written s0).2)), ((ad0 1), .inl (cA 0, (Md_other s0).1, .inl (Md_other s0).2))]) rfl ?_
    refine x_iload F d_Md_makeOf_43 4 rfl ?_
    refine x_aload_n F d_Md_makeOf_45 0 rfl rfl ?_
    refine x_get F ck_Md hin_Md 0 16 rfl (by decide) kw_650 rfl rfl d_Md_makeOf_46 ?_
    refine x_icmp_ge F 100 d_Md_makeOf_49 (by decide) (fun c22 => ?_) (fun c22 => ?_)
    · replace hm := xm_t hm c22
      replace hm := xm_p_some hm
      obtain ⟨eo, c_o, d_o⟩ := hm
      subst eo
      refine x_sub [0, 1, 2, 3, 4, 5, 6, 7, 8, 9, 10, 11, 12, 13, 14, 15, 16, 17, 18, 19, 20] (by decide) ?_ (x_lv [0, 1, 2, 3, 4] ?_ (x_cs (by omega) (by omega) (KX ad0)))
      · rfl
      · rfl
    · replace hm := xm_f hm c22
      refine x_aload_n F d_Md_makeOf_52 0 rfl rfl ?_
      refine x_get F ck_Md hin_Md 0 11 rfl (by decide) kw_645 rfl rfl d_Md_makeOf_53 ?_
      refine x_aload_n F d_Md_makeOf_56 0 rfl rfl ?_
      refine x_get F ck_Md hin_Md 0 13 rfl (by decide) kw_647 rfl rfl d_Md_makeOf_57 ?_
      refine x_aload_n F d_Md_makeOf_60 0 rfl rfl ?_
      refine x_get F ck_Md hin_Md 0 14 rfl (by decide) kw_648 rfl rfl d_Md_makeOf_61 ?_
      refine x_iload F d_Md_makeOf_64 4 rfl ?_
      replace hm := xm_rd_some hm
      obtain ⟨v23, e_v23, b_v23, hm⟩ := hm
      refine x_iald (x := (Md_pushedFeatures s0)) F 12 rfl e_v23 b_v23 d_Md_makeOf_66 ?_
      replace hm := xm_wr_some hm
      obtain ⟨a24, e_a24, b_a24, hm⟩ := hm
      refine x_iast (x := (Md_features s0)) (x' := a24) (ws' := [((ob0 0), .inr (8, [.ref (ob0 1), .ref (ob0 2), .ref (ob0 3), .ref (ob0 4), .ref (ob0 5), .ref (ob0 6), .ref (ob0 7), .ref (ob0 8), .ref (ob0 9), .int (Md_end s0), .int (Md_nodes s0), .ref (ob0 10), .ref (ob0 11), .int (Md_fields s0), .ref (ob0 12), .ref (ob0 13), .int (Md_pushed s0), .ref (ob0 14), .int (Md_touches s0), .ref (ob0 15), .ref (ob0 16), .ref (ob0 17), .ref (ob0 18), .ref (ad0 0), .ref (ad0 1), .int (Md_length s0)])), ((ob0 1), .inl (cA 1, (Md_kinds s0).1, .inl (Md_kinds s0).2)), ((ob0 2), .inl (cA 0, (Md_values s0).1, .inl (Md_values s0).2)), ((ob0 3), .inl (cA 0, (Md_firsts s0).1, .inl (Md_firsts s0).2)), ((ob0 4), .inl (cA 0, (Md_manies s0).1, .inl (Md_manies s0).2)), ((ob0 5), .inl (cA 2, (Md_said s0).1, .inl (Md_said s0).2)), ((ob0 6), .inl (cA 2, (Md_marked s0).1, .inl (Md_marked s0).2)), ((ob0 7), .inl (cA 0, (Md_leaders s0).1, .inl (Md_leaders s0).2)), ((ob0 8), .inl (cA 0, (Md_trial s0).1, .inl (Md_trial s0).2)), ((ob0 9), .inl (cA 0, (Md_shown s0).1, .inl (Md_shown s0).2)), ((ob0 10), .inl (cA 0, a24.1, .inl a24.2)), ((ob0 11), .inl (cA 0, (Md_parts s0).1, .inl (Md_parts s0).2)), ((ob0 12), .inl (cA 0, (Md_pushedFeatures s0).1, .inl (Md_pushedFeatures s0).2)), ((ob0 13), .inl (cA 0, (Md_pushedParts s0).1, .inl (Md_pushedParts s0).2)), ((ob0 14), .inl (cA 0, (Md_touched s0).1, .inl (Md_touched s0).2)), ((ob0 15), .inl (cA 0, (Md_reached s0).1, .inl (Md_reached s0).2)), ((ob0 16), .inl (cA 0, (Md_blocks s0).1, .inl (Md_blocks s0).2)), ((ob0 17), .inl (cA 0, (Md_newBlocks s0).1, .inl (Md_newBlocks s0).2)), ((ob0 18), .inl (cA 0, (Md_places s0).1, .inl (Md_places s0).2)), ((ad0 0), .inl (cA 0, (Md_written s0).1, .inl (Md_written s0).2)), ((ad0 1), .inl (cA 0, (Md_other s0).1, .inl (Md_other s0).2))]) F 10 rfl e_a24 b_a24 rfl d_Md_makeOf_67 ?_
      refine x_aload_n F d_Md_makeOf_68 0 rfl rfl ?_
      refine x_get F ck_Md hin_Md 0 12 rfl (by decide) kw_646 rfl rfl d_Md_makeOf_69 ?_
      refine x_aload_n F d_Md_makeOf_72 0 rfl rfl ?_
      refine x_get F ck_Md hin_Md 0 13 rfl (by decide) kw_647 rfl rfl d_Md_makeOf_73 ?_
      refine x_aload_n F d_Md_makeOf_76 0 rfl rfl ?_
      refine x_get F ck_Md hin_Md 0 15 rfl (by decide) kw_649 rfl rfl d_Md_makeOf_77 ?_
      refine x_iload F d_Md_makeOf_80 4 rfl ?_
      replace hm := xm_rd_some hm
      obtain ⟨v25, e_v25, b_v25, hm⟩ := hm
      refine x_iald (x := (Md_pushedParts s0)) F 13 rfl e_v25 b_v25 d_Md_makeOf_82 ?_
      replace hm := xm_wr_some hm
      obtain ⟨a26, e_a26, b_a26, hm⟩ := hm
      refine x_iast (x := (Md_parts s0)) (x' := a26) (ws' := [((ob0 0), .inr (8, [.ref (ob0 1), .ref (ob0 2), .ref (ob0 3), .ref (ob0 4), .ref (ob0 5), .ref (ob0 6), .ref (ob0 7), .ref (ob0 8), .ref (ob0 9), .int (Md_end s0), .int (Md_nodes s0), .ref (ob0 10), .ref (ob0 11), .int (Md_fields s0), .ref (ob0 12), .ref (ob0 13), .int (Md_pushed s0), .ref (ob0 14), .int (Md_touches s0), .ref (ob0 15), .ref (ob0 16), .ref (ob0 17), .ref (ob0 18), .ref (ad0 0), .ref (ad0 1), .int (Md_length s0)])), ((ob0 1), .inl (cA 1, (Md_kinds s0).1, .inl (Md_kinds s0).2)), ((ob0 2), .inl (cA 0, (Md_values s0).1, .inl (Md_values s0).2)), ((ob0 3), .inl (cA 0, (Md_firsts s0).1, .inl (Md_firsts s0).2)), ((ob0 4), .inl (cA 0, (Md_manies s0).1, .inl (Md_manies s0).2)), ((ob0 5), .inl (cA 2, (Md_said s0).1, .inl (Md_said s0).2)), ((ob0 6), .inl (cA 2, (Md_marked s0).1, .inl (Md_marked s0).2)), ((ob0 7), .inl (cA 0, (Md_leaders s0).1, .inl (Md_leaders s0).2)), ((ob0 8), .inl (cA 0, (Md_trial s0).1, .inl (Md_trial s0).2)), ((ob0 9), .inl (cA 0, (Md_shown s0).1, .inl (Md_shown s0).2)), ((ob0 10), .inl (cA 0, a24.1, .inl a24.2)), ((ob0 11), .inl (cA 0, a26.1, .inl a26.2)), ((ob0 12), .inl (cA 0, (Md_pushedFeatures s0).1, .inl (Md_pushedFeatures s0).2)), ((ob0 13), .inl (cA 0, (Md_pushedParts s0).1, .inl (Md_pushedParts s0).2)), ((ob0 14), .inl (cA 0, (Md_touched s0).1, .inl (Md_touched s0).2)), ((ob0 15), .inl (cA 0, (Md_reached s0).1, .inl (Md_reached s0).2)), ((ob0 16), .inl (cA 0, (Md_blocks s0).1, .inl (Md_blocks s0).2)), ((ob0 17), .inl (cA 0, (Md_newBlocks s0).1, .inl (Md_newBlocks s0).2)), ((ob0 18), .inl (cA 0, (Md_places s0).1, .inl (Md_places s0).2)), ((ad0 0), .inl (cA 0, (Md_written s0).1, .inl (Md_written s0).2)), ((ad0 1), .inl (cA 0, (Md_other s0).1, .inl (Md_other s0).2))]) F 11 rfl e_a26 b_a26 rfl d_Md_makeOf_83 ?_
      refine x_aload_n F d_Md_makeOf_84 0 rfl rfl ?_
      refine x_dup F d_Md_makeOf_85 rfl ?_
      refine x_get F ck_Md hin_Md 0 13 rfl (by decide) kw_647 rfl rfl d_Md_makeOf_86 ?_
      refine x_iconst (v := (1 : Int32)) F d_Md_makeOf_89 (by decide) ?_
      refine x_iadd F d_Md_makeOf_90 ?_
      refine x_put (ws' := [((ob0 0), .inr (8, [.ref (ob0 1), .ref (ob0 2), .ref (ob0 3), .ref (ob0 4), .ref (ob0 5), .ref (ob0 6), .ref (ob0 7), .ref (ob0 8), .ref (ob0 9), .int (Md_end s0), .int (Md_nodes s0), .ref (ob0 10), .ref (ob0 11), .int ((Md_fields s0) + (1 : Int32)), .ref (ob0 12), .ref (ob0 13), .int (Md_pushed s0), .ref (ob0 14), .int (Md_touches s0), .ref (ob0 15), .ref (ob0 16), .ref (ob0 17), .ref (ob0 18), .ref (ad0 0), .ref (ad0 1), .int (Md_length s0)])), ((ob0 1), .inl (cA 1, (Md_kinds s0).1, .inl (Md_kinds s0).2)), ((ob0 2), .inl (cA 0, (Md_values s0).1, .inl (Md_values s0).2)), ((ob0 3), .inl (cA 0, (Md_firsts s0).1, .inl (Md_firsts s0).2)), ((ob0 4), .inl (cA 0, (Md_manies s0).1, .inl (Md_manies s0).2)), ((ob0 5), .inl (cA 2, (Md_said s0).1, .inl (Md_said s0).2)), ((ob0 6), .inl (cA 2, (Md_marked s0).1, .inl (Md_marked s0).2)), ((ob0 7), .inl (cA 0, (Md_leaders s0).1, .inl (Md_leaders s0).2)), ((ob0 8), .inl (cA 0, (Md_trial s0).1, .inl (Md_trial s0).2)), ((ob0 9), .inl (cA 0, (Md_shown s0).1, .inl (Md_shown s0).2)), ((ob0 10), .inl (cA 0, a24.1, .inl a24.2)), ((ob0 11), .inl (cA 0, a26.1, .inl a26.2)), ((ob0 12), .inl (cA 0, (Md_pushedFeatures s0).1, .inl (Md_pushedFeatures s0).2)), ((ob0 13), .inl (cA 0, (Md_pushedParts s0).1, .inl (Md_pushedParts s0).2)), ((ob0 14), .inl (cA 0, (Md_touched s0).1, .inl (Md_touched s0).2)), ((ob0 15), .inl (cA 0, (Md_reached s0).1, .inl (Md_reached s0).2)), ((ob0 16), .inl (cA 0, (Md_blocks s0).1, .inl (Md_blocks s0).2)), ((ob0 17), .inl (cA 0, (Md_newBlocks s0).1, .inl (Md_newBlocks s0).2)), ((ob0 18), .inl (cA 0, (Md_places s0).1, .inl (Md_places s0).2)), ((ad0 0), .inl (cA 0, (Md_written s0).1, .inl (Md_written s0).2)), ((ad0 1), .inl (cA 0, (Md_other s0).1, .inl (Md_other s0).2))]) F ck_Md hin_Md 0 13 rfl (by decide) kw_647 rfl rfl rfl rfl (Nat.le_of_ble_eq_true rfl) rfl d_Md_makeOf_91 ?_
      refine x_iinc (v := (x4 + 1)) (lv' := [(4, .int (x4 + 1)), (0, .ref (ob0 0)), (1, .int y1), (2, .int y2), (3, .int y3)]) F d_Md_makeOf_94 4 rfl rfl (by decide) rfl ?_
      refine x_goto F 43 d_Md_makeOf_97 (by decide) ?_
      refine x_sub [0, 1, 2, 3, 4, 5, 6, 7, 8, 9, 10, 11, 12, 13, 14, 15, 16, 17, 18, 19, 20] (by decide) ?_ (x_lv [1, 2, 3, 4, 0] ?_ (ih (x4 + 1) ((Md_kinds s0), (Md_values s0), (Md_firsts s0), (Md_manies s0), (Md_said s0), (Md_marked s0), (Md_leaders s0), (Md_trial s0), (Md_shown s0), (Md_end s0), (Md_nodes s0), a24, a26, ((Md_fields s0) + (1 : Int32)), (Md_pushedFeatures s0), (Md_pushedParts s0), (Md_pushed s0), (Md_touched s0), (Md_touches s0), (Md_reached s0), (Md_blocks s0), (Md_newBlocks s0), (Md_places s0), (Md_written s0), (Md_other s0), (Md_length s0)) ad0 _ _ out k hm (by omega) (by omega) (fun ad => x_cs (by omega) (by omega) (KX ad))))
      · rfl
      · rfl
set_option maxHeartbeats 4000000 in
set_option maxRecDepth 100000 in
theorem c_Md_makeOf (l : Launch) (D : va_G) (cA : Nat → ClassId) (n : Nat) (ob0 ad0 : Nat → Nat) (s0 : S_Md) (p0 : Int32) (p1 : Int32) (out : Int32 × S_Md) (k : KC) (hm : m_Md_makeOf n s0 p0 p1 = some (out, k)) : XM l D cA y_Md_makeOf b_Md_makeOf 5 (some FieldType.int) 2 44 [.ref (ob0 0), .int p0, .int p1] ((w_Md cA ob0 ad0  s0)) k (fun _ => some (.int (out.1))) (fun ad => (w_Md cA ob0 ad  (out.2))) := by
  refine x_met (cc := b_Md_makeOf) (nL := 5) (ret := (some FieldType.int)) R_Md (by decide) (Nat.le_of_ble_eq_true rfl) rfl (fun X F I E => ?_)
  unfold m_Md_makeOf at hm
  refine x_nf2 (ws' := [((ob0 0), .inr (8, [.ref (ob0 1), .ref (ob0 2), .ref (ob0 3), .ref (ob0 4), .ref (ob0 5), .ref (ob0 6), .ref (ob0 7), .ref (ob0 8), .ref (ob0 9), .int (Md_end s0), .int (Md_nodes s0), .ref (ob0 10), .ref (ob0 11), .int (Md_fields s0), .ref (ob0 12), .ref (ob0 13), .int (Md_pushed s0), .ref (ob0 14), .int (Md_touches s0), .ref (ob0 15), .ref (ob0 16), .ref (ob0 17), .ref (ob0 18), .ref (ad0 0), .ref (ad0 1), .int (Md_length s0)])), ((ob0 1), .inl (cA 1, (Md_kinds s0).1, .inl (Md_kinds s0).2)), ((ob0 2), .inl (cA 0, (Md_values s0).1, .inl (Md_values s0).2)), ((ob0 3), .inl (cA 0, (Md_firsts s0).1, .inl (Md_firsts s0).2)), ((ob0 4), .inl (cA 0, (Md_manies s0).1, .inl (Md_manies s0).2)), ((ob0 5), .inl (cA 2, (Md_said s0).1, .inl (Md_said s0).2)), ((ob0 6), .inl (cA 2, (Md_marked s0).1, .inl (Md_marked s0).2)), ((ob0 7), .inl (cA 0, (Md_leaders s0).1, .inl (Md_leaders s0).2)), ((ob0 8), .inl (cA 0, (Md_trial s0).1, .inl (Md_trial s0).2)), ((ob0 9), .inl (cA 0, (Md_shown s0).1, .inl (Md_shown s0).2)), ((ob0 10), .inl (cA 0, (Md_features s0).1, .inl (Md_features s0).2)), ((ob0 11), .inl (cA 0, (Md_parts s0).1, .inl (Md_parts s0).2)), ((ob0 12), .inl (cA 0, (Md_pushedFeatures s0).1, .inl (Md_pushedFeatures s0).2)), ((ob0 13), .inl (cA 0, (Md_pushedParts s0).1, .inl (Md_pushedParts s0).2)), ((ob0 14), .inl (cA 0, (Md_touched s0).1, .inl (Md_touched s0).2)), ((ob0 15), .inl (cA 0, (Md_reached s0).1, .inl (Md_reached s0).2)), ((ob0 16), .inl (cA 0, (Md_blocks s0).1, .inl (Md_blocks s0).2)), ((ob0 17), .inl (cA 0, (Md_newBlocks s0).1, .inl (Md_newBlocks s0).2)), ((ob0 18), .inl (cA 0, (Md_places s0).1, .inl (Md_places s0).2)), ((ad0 0), .inl (cA 0, (Md_written s0).1, .inl (Md_written s0).2)), ((ad0 1), .inl (cA 0, (Md_other s0).1, .inl (Md_other s0).2))]) (lv' := [(0, .ref (ob0 0)), (1, .int p0), (2, .int p1)]) rfl rfl ?_
  refine x_aload_n F d_Md_makeOf_0 0 rfl rfl ?_
  refine x_get F ck_Md hin_Md 0 13 rfl (by decide) kw_647 rfl rfl d_Md_makeOf_1 ?_
  refine x_aload_n F d_Md_makeOf_4 0 rfl rfl ?_
  refine x_get F ck_Md hin_Md 0 16 rfl (by decide) kw_650 rfl rfl d_Md_makeOf_5 ?_
  refine x_iadd F d_Md_makeOf_8 ?_
  refine x_ldc (v := (65536 : Int32)) F kw_633 d_Md_makeOf_9 ?_
  refine x_icmp_le F 17 d_Md_makeOf_11 (by decide) (fun c14 => ?_) (fun c14 => ?_)
  · replace hm := xm_t hm c14
    refine x_aload_n F d_Md_makeOf_17 0 rfl rfl ?_
    refine x_iload_n F d_Md_makeOf_18 1 rfl rfl ?_
    refine x_iload_n F d_Md_makeOf_19 2 rfl rfl ?_
    replace hm := xm_b_some hm
    obtain ⟨o15, k16, k17, h18, hm, c_o15, d_o15⟩ := hm
    refine x_callV (n := 2) (C := R_Md) (wr := []) F (c_Md_make l D cA n ob0 ad0 s0 p0 p1 o15 k16 h18) kw_722 kw_719 kw_721 kw_18 kw_47 ⟨rfl, by decide, by decide, by decide +kernel⟩ rfl (by decide) (by decide) (ci := 8) rfl rfl 0 rfl [0, 1, 2, 3, 4, 5, 6, 7, 8, 9, 10, 11, 12, 13, 14, 15, 16, 17, 18, 19, 20] [] rfl rfl (by decide) (by decide) (by decide) rfl (Nat.le_of_ble_eq_true rfl) (by omega) (by omega) d_Md_makeOf_20 (fun ad19 => ?_)
    refine x_nf (ws' := [((ob0 0), .inr (8, [.ref (ob0 1), .ref (ob0 2), .ref (ob0 3), .ref (ob0 4), .ref (ob0 5), .ref (ob0 6), .ref (ob0 7), .ref (ob0 8), .ref (ob0 9), .int (Md_end (o15.2)), .int (Md_nodes (o15.2)), .ref (ob0 10), .ref (ob0 11), .int (Md_fields (o15.2)), .ref (ob0 12), .ref (ob0 13), .int (Md_pushed (o15.2)), .ref (ob0 14), .int (Md_touches (o15.2)), .ref (ob0 15), .ref (ob0 16), .ref (ob0 17), .ref (ob0 18), .ref (ad19 0), .ref (ad19 1), .int (Md_length (o15.2))])), ((ob0 1), .inl (cA 1, (Md_kinds (o15.2)).1, .inl (Md_kinds (o15.2)).2)), ((ob0 2), .inl (cA 0, (Md_values (o15.2)).1, .inl (Md_values (o15.2)).2)), ((ob0 3), .inl (cA 0, (Md_firsts (o15.2)).1, .inl (Md_firsts (o15.2)).2)), ((ob0 4), .inl (cA 0, (Md_manies (o15.2)).1, .inl (Md_manies (o15.2)).2)), ((ob0 5), .inl (cA 2, (Md_said (o15.2)).1, .inl (Md_said (o15.2)).2)), ((ob0 6), .inl (cA 2, (Md_marked (o15.2)).1, .inl (Md_marked (o15.2)).2)), ((ob0 7), .inl (cA 0, (Md_leaders (o15.2)).1, .inl (Md_leaders (o15.2)).2)), ((ob0 8), .inl (cA 0, (Md_trial (o15.2)).1, .inl (Md_trial (o15.2)).2)), ((ob0 9), .inl (cA 0, (Md_shown (o15.2)).1, .inl (Md_shown (o15.2)).2)), ((ob0 10), .inl (cA 0, (Md_features (o15.2)).1, .inl (Md_features (o15.2)).2)), ((ob0 11), .inl (cA 0, (Md_parts (o15.2)).1, .inl (Md_parts (o15.2)).2)), ((ob0 12), .inl (cA 0, (Md_pushedFeatures (o15.2)).1, .inl (Md_pushedFeatures (o15.2)).2)), ((ob0 13), .inl (cA 0, (Md_pushedParts (o15.2)).1, .inl (Md_pushedParts (o15.2)).2)), ((ob0 14), .inl (cA 0, (Md_touched (o15.2)).1, .inl (Md_touched (o15.2)).2)), ((ob0 15), .inl (cA 0, (Md_reached (o15.2)).1, .inl (Md_reached (o15.2)).2)), ((ob0 16), .inl (cA 0, (Md_blocks (o15.2)).1, .inl (Md_blocks (o15.2)).2)), ((ob0 17), .inl (cA 0, (Md_newBlocks (o15.2)).1, .inl (Md_newBlocks (o15.2)).2)), ((ob0 18), .inl (cA 0, (Md_places (o15.2)).1, .inl (Md_places (o15.2)).2)), ((ad19 0), .inl (cA 0, (Md_written (o15.2)).1, .inl (Md_written (o15.2)).2)), ((ad19 1), .inl (cA 0, (Md_other (o15.2)).1, .inl (Md_other (o15.2)).2))]) (st' := [.int (o15.1)]) rfl rfl ?_
    refine x_istore_n (lv' := [(3, .int (o15.1)), (0, .ref (ob0 0)), (1, .int p0), (2, .int p1)]) F d_Md_makeOf_23 rfl (by decide) rfl ?_
    refine x_iload_n F d_Md_makeOf_24 0 rfl rfl ?_
    refine x_if_ge F 30 d_Md_makeOf_25 (by decide) (fun c20 => ?_) (fun c20 => ?_)
    · replace hm := xm_t hm c20
      refine x_aload_n F d_Md_makeOf_30 1 rfl rfl ?_
      refine x_get F ck_Md hin_Md 0 3 rfl (by decide) kw_637 rfl rfl d_Md_makeOf_31 ?_
      refine x_iload_n F d_Md_makeOf_34 0 rfl rfl ?_
      refine x_aload_n F d_Md_makeOf_35 1 rfl rfl ?_
      refine x_get F ck_Md hin_Md 0 16 rfl (by decide) kw_650 rfl rfl d_Md_makeOf_36 ?_
      replace hm := xm_wr_some hm
      obtain ⟨a21, e_a21, b_a21, hm⟩ := hm
      refine x_iast (x := (Md_manies (o15.2))) (x' := a21) (ws' := [((ob0 0), .inr (8, [.ref (ob0 1), .ref (ob0 2), .ref (ob0 3), .ref (ob0 4), .ref (ob0 5), .ref (ob0 6), .ref (ob0 7), .ref (ob0 8), .ref (ob0 9), .int (Md_end (o15.2)), .int (Md_nodes (o15.2)), .ref (ob0 10), .ref (ob0 11), .int (Md_fields (o15.2)), .ref (ob0 12), .ref (ob0 13), .int (Md_pushed (o15.2)), .ref (ob0 14), .int (Md_touches (o15.2)), .ref (ob0 15), .ref (ob0 16), .ref (ob0 17), .ref (ob0 18), .ref (ad19 0), .ref (ad19 1), .int (Md_length (o15.2))])), ((ob0 1), .inl (cA 1, (Md_kinds (o15.2)).1, .inl (Md_kinds (o15.2)).2)), ((ob0 2), .inl (cA 0, (Md_values (o15.2)).1, .inl (Md_values (o15.2)).2)), ((ob0 3), .inl (cA 0, (Md_firsts (o15.2)).1, .inl (Md_firsts (o15.2)).2)), ((ob0 4), .inl (cA 0, a21.1, .inl a21.2)), ((ob0 5), .inl (cA 2, (Md_said (o15.2)).1, .inl (Md_said (o15.2)).2)), ((ob0 6), .inl (cA 2, (Md_marked (o15.2)).1, .inl (Md_marked (o15.2)).2)), ((ob0 7), .inl (cA 0, (Md_leaders (o15.2)).1, .inl (Md_leaders (o15.2)).2)), ((ob0 8), .inl (cA 0, (Md_trial (o15.2)).1, .inl (Md_trial (o15.2)).2)), ((ob0 9), .inl (cA 0, (Md_shown (o15.2)).1, .inl (Md_shown (o15.2)).2)), ((ob0 10), .inl (cA 0, (Md_features (o15.2)).1, .inl (Md_features (o15.2)).2)), ((ob0 11), .inl (cA 0, (Md_parts (o15.2)).1, .inl (Md_parts (o15.2)).2)), ((ob0 12), .inl (cA 0, (Md_pushedFeatures (o15.2)).1, .inl (Md_pushedFeatures (o15.2)).2)), ((ob0 13), .inl (cA 0, (Md_pushedParts (o15.2)).1, .inl (Md_pushedParts (o15.2)).2)), ((ob0 14), .inl (cA 0, (Md_touched (o15.2)).1, .inl (Md_touched (o15.2)).2)), ((ob0 15), .inl (cA 0, (Md_reached (o15.2)).1, .inl (Md_reached (o15.2)).2)), ((ob0 16), .inl (cA 0, (Md_blocks (o15.2)).1, .inl (Md_blocks (o15.2)).2)), ((ob0 17), .inl (cA 0, (Md_newBlocks (o15.2)).1, .inl (Md_newBlocks (o15.2)).2)), ((ob0 18), .inl (cA 0, (Md_places (o15.2)).1, .inl (Md_places (o15.2)).2)), ((ad19 0), .inl (cA 0, (Md_written (o15.2)).1, .inl (Md_written (o15.2)).2)), ((ad19 1), .inl (cA 0, (Md_other (o15.2)).1, .inl (Md_other (o15.2)).2))]) F 4 rfl e_a21 b_a21 rfl d_Md_makeOf_39 ?_
      refine x_iconst (v := (0 : Int32)) F d_Md_makeOf_40 (by decide) ?_
      refine x_istore (lv' := [(4, .int (0 : Int32)), (3, .int (o15.1)), (0, .ref (ob0 0)), (1, .int p0), (2, .int p1)]) F d_Md_makeOf_41 (by decide) rfl ?_
      replace hm := xm_b_some hm
      obtain ⟨o27, k28, k29, h30, hm, c_o27, d_o27⟩ := hm
      refine x_sub [0, 1, 2, 3, 4, 5, 6, 7, 8, 9, 10, 11, 12, 13, 14, 15, 16, 17, 18, 19, 20] (by decide) ?_ (x_lv [2, 3, 4, 1, 0] ?_ (wl_Md_makeOf_43 F n ob0 p0 p1 (o15.1)  n (0 : Int32) ((Md_kinds (o15.2)), (Md_values (o15.2)), (Md_firsts (o15.2)), a21, (Md_said (o15.2)), (Md_marked (o15.2)), (Md_leaders (o15.2)), (Md_trial (o15.2)), (Md_shown (o15.2)), (Md_end (o15.2)), (Md_nodes (o15.2)), (Md_features (o15.2)), (Md_parts (o15.2)), (Md_fields (o15.2)), (Md_pushedFeatures (o15.2)), (Md_pushedParts (o15.2)), (Md_pushed (o15.2)), (Md_touched (o15.2)), (Md_touches (o15.2)), (Md_reached (o15.2)), (Md_blocks (o15.2)), (Md_newBlocks (o15.2)), (Md_places (o15.2)), (Md_written (o15.2)), (Md_other (o15.2)), (Md_length (o15.2))) ad19 _ _ o27 k28 h30 (by omega) (by omega) (fun ad31 => ?_)))
      · rfl
      · rfl
      refine x_nf2 (ws' := [((ob0 0), .inr (8, [.ref (ob0 1), .ref (ob0 2), .ref (ob0 3), .ref (ob0 4), .ref (ob0 5), .ref (ob0 6), .ref (ob0 7), .ref (ob0 8), .ref (ob0 9), .int (Md_end (o27.2)), .int (Md_nodes (o27.2)), .ref (ob0 10), .ref (ob0 11), .int (Md_fields (o27.2)), .ref (ob0 12), .ref (ob0 13), .int (Md_pushed (o27.2)), .ref (ob0 14), .int (Md_touches (o27.2)), .ref (ob0 15), .ref (ob0 16), .ref (ob0 17), .ref (ob0 18), .ref (ad31 0), .ref (ad31 1), .int (Md_length (o27.2))])), ((ob0 1), .inl (cA 1, (Md_kinds (o27.2)).1, .inl (Md_kinds (o27.2)).2)), ((ob0 2), .inl (cA 0, (Md_values (o27.2)).1, .inl (Md_values (o27.2)).2)), ((ob0 3), .inl (cA 0, (Md_firsts (o27.2)).1, .inl (Md_firsts (o27.2)).2)), ((ob0 4), .inl (cA 0, (Md_manies (o27.2)).1, .inl (Md_manies (o27.2)).2)), ((ob0 5), .inl (cA 2, (Md_said (o27.2)).1, .inl (Md_said (o27.2)).2)), ((ob0 6), .inl (cA 2, (Md_marked (o27.2)).1, .inl (Md_marked (o27.2)).2)), ((ob0 7), .inl (cA 0, (Md_leaders (o27.2)).1, .inl (Md_leaders (o27.2)).2)), ((ob0 8), .inl (cA 0, (Md_trial (o27.2)).1, .inl (Md_trial (o27.2)).2)), ((ob0 9), .inl (cA 0, (Md_shown (o27.2)).1, .inl (Md_shown (o27.2)).2)), ((ob0 10), .inl (cA 0, (Md_features (o27.2)).1, .inl (Md_features (o27.2)).2)), ((ob0 11), .inl (cA 0, (Md_parts (o27.2)).1, .inl (Md_parts (o27.2)).2)), ((ob0 12), .inl (cA 0, (Md_pushedFeatures (o27.2)).1, .inl (Md_pushedFeatures (o27.2)).2)), ((ob0 13), .inl (cA 0, (Md_pushedParts (o27.2)).1, .inl (Md_pushedParts (o27.2)).2)), ((ob0 14), .inl (cA 0, (Md_touched (o27.2)).1, .inl (Md_touched (o27.2)).2)), ((ob0 15), .inl (cA 0, (Md_reached (o27.2)).1, .inl (Md_reached (o27.2)).2)), ((ob0 16), .inl (cA 0, (Md_blocks (o27.2)).1, .inl (Md_blocks (o27.2)).2)), ((ob0 17), .inl (cA 0, (Md_newBlocks (o27.2)).1, .inl (Md_newBlocks (o27.2)).2)), ((ob0 18), .inl (cA 0, (Md_places (o27.2)).1, .inl (Md_places (o27.2)).2)), ((ad31 0), .inl (cA 0, (Md_written (o27.2)).1, .inl (Md_written (o27.2)).2)), ((ad31 1), .inl (cA 0, (Md_other (o27.2)).1, .inl (Md_other (o27.2)).2))]) (lv' := [(0, .ref (ob0 0)), (1, .int p0), (2, .int p1), (3, .int (o15.1)), (4, .int (o27.1))]) rfl rfl ?_
      refine x_aload_n F d_Md_makeOf_100 0 rfl rfl ?_
      refine x_iconst (v := (0 : Int32)) F d_Md_makeOf_101 (by decide) ?_
      refine x_put (ws' := [((ob0 0), .inr (8, [.ref (ob0 1), .ref (ob0 2), .ref (ob0 3), .ref (ob0 4), .ref (ob0 5), .ref (ob0 6), .ref (ob0 7), .ref (ob0 8), .ref (ob0 9), .int (Md_end (o27.2)), .int (Md_nodes (o27.2)), .ref (ob0 10), .ref (ob0 11), .int (Md_fields (o27.2)), .ref (ob0 12), .ref (ob0 13), .int (0 : Int32), .ref (ob0 14), .int (Md_touches (o27.2)), .ref (ob0 15), .ref (ob0 16), .ref (ob0 17), .ref (ob0 18), .ref (ad31 0), .ref (ad31 1), .int (Md_length (o27.2))])), ((ob0 1), .inl (cA 1, (Md_kinds (o27.2)).1, .inl (Md_kinds (o27.2)).2)), ((ob0 2), .inl (cA 0, (Md_values (o27.2)).1, .inl (Md_values (o27.2)).2)), ((ob0 3), .inl (cA 0, (Md_firsts (o27.2)).1, .inl (Md_firsts (o27.2)).2)), ((ob0 4), .inl (cA 0, (Md_manies (o27.2)).1, .inl (Md_manies (o27.2)).2)), ((ob0 5), .inl (cA 2, (Md_said (o27.2)).1, .inl (Md_said (o27.2)).2)), ((ob0 6), .inl (cA 2, (Md_marked (o27.2)).1, .inl (Md_marked (o27.2)).2)), ((ob0 7), .inl (cA 0, (Md_leaders (o27.2)).1, .inl (Md_leaders (o27.2)).2)), ((ob0 8), .inl (cA 0, (Md_trial (o27.2)).1, .inl (Md_trial (o27.2)).2)), ((ob0 9), .inl (cA 0, (Md_shown (o27.2)).1, .inl (Md_shown (o27.2)).2)), ((ob0 10), .inl (cA 0, (Md_features (o27.2)).1, .inl (Md_features (o27.2)).2)), ((ob0 11), .inl (cA 0, (Md_parts (o27.2)).1, .inl (Md_parts (o27.2)).2)), ((ob0 12), .inl (cA 0, (Md_pushedFeatures (o27.2)).1, .inl (Md_pushedFeatures (o27.2)).2)), ((ob0 13), .inl (cA 0, (Md_pushedParts (o27.2)).1, .inl (Md_pushedParts (o27.2)).2)), ((ob0 14), .inl (cA 0, (Md_touched (o27.2)).1, .inl (Md_touched (o27.2)).2)), ((ob0 15), .inl (cA 0, (Md_reached (o27.2)).1, .inl (Md_reached (o27.2)).2)), ((ob0 16), .inl (cA 0, (Md_blocks (o27.2)).1, .inl (Md_blocks (o27.2)).2)), ((ob0 17), .inl (cA 0, (Md_newBlocks (o27.2)).1, .inl (Md_newBlocks (o27.2)).2)), ((ob0 18), .inl (cA 0, (Md_places (o27.2)).1, .inl (Md_places (o27.2)).2)), ((ad31 0), .inl (cA 0, (Md_written (o27.2)).1, .inl (Md_written (o27.2)).2)), ((ad31 1), .inl (cA 0, (Md_other (o27.2)).1, .inl (Md_other (o27.2)).2))]) F ck_Md hin_Md 0 16 rfl (by decide) kw_650 rfl rfl rfl rfl (Nat.le_of_ble_eq_true rfl) rfl d_Md_makeOf_102 ?_
      refine x_iload_n F d_Md_makeOf_105 3 rfl rfl ?_
      replace hm := xm_p_some hm
      obtain ⟨eo, c_o, d_o⟩ := hm
      subst eo
      refine x_sub [0, 1, 2, 3, 4, 5, 6, 7, 8, 9, 10, 11, 12, 13, 14, 15, 16, 17, 18, 19, 20] (by decide) ?_ (xe_i E ad31 (by omega) (by omega) rfl (xz_i _) d_Md_makeOf_106)
      rfl
    · replace hm := xm_f hm c20
      refine x_iload_n F d_Md_makeOf_28 0 rfl rfl ?_
      replace hm := xm_p_some hm
      obtain ⟨eo, c_o, d_o⟩ := hm
      subst eo
      refine x_sub [0, 1, 2, 3, 4, 5, 6, 7, 8, 9, 10, 11, 12, 13, 14, 15, 16, 17, 18, 19, 20] (by decide) ?_ (xe_i E ad19 (by omega) (by omega) rfl (xz_i _) d_Md_makeOf_29)
      rfl
  · replace hm := xm_f hm c14
    refine x_bipush (v := (-2 : Int32)) F d_Md_makeOf_14 (by decide) ?_
    replace hm := xm_p_some hm
    obtain ⟨eo, c_o, d_o⟩ := hm
    subst eo
    refine x_sub [0, 1, 2, 3, 4, 5, 6, 7, 8, 9, 10, 11, 12, 13, 14, 15, 16, 17, 18, 19, 20] (by decide) ?_ (xe_i E ad0 (by omega) (by omega) rfl (xz_i _) d_Md_makeOf_16)
    rfl

noncomputable def m_Md_record (n : Nat) (s0 : S_Md) (p0 : Int32) : MO (Int32 × S_Md) := (if p0 < 0 then (xm_p ((-1 : Int32), s0)) else (if (8192 : Int32) ≤ p0 then (xm_p ((-1 : Int32), s0)) else (if (Md_pushed s0) = 0 then (xm_p ((-1 : Int32), s0)) else (xm_b (m_Md_makeOf n s0 (3 : Int32) p0) (fun o12 => (xm_p ((o12.1), (o12.2))))))))
set_option maxHeartbeats 4000000 in
set_option maxRecDepth 100000 in
theorem c_Md_record (l : Launch) (D : va_G) (cA : Nat → ClassId) (n : Nat) (ob0 ad0 : Nat → Nat) (s0 : S_Md) (p0 : Int32) (out : Int32 × S_Md) (k : KC) (hm : m_Md_record n s0 p0 = some (out, k)) : XM l D cA y_Md_record b_Md_record 2 (some FieldType.int) 3 68 [.ref (ob0 0), .int p0] ((w_Md cA ob0 ad0  s0)) k (fun _ => some (.int (out.1))) (fun ad => (w_Md cA ob0 ad  (out.2))) := by
  refine x_met (cc := b_Md_record) (nL := 2) (ret := (some FieldType.int)) R_Md (by decide) (Nat.le_of_ble_eq_true rfl) rfl (fun X F I E => ?_)
  unfold m_Md_record at hm
  refine x_nf2 (ws' := [((ob0 0), .inr (8, [.ref (ob0 1), .ref (ob0 2), .ref (ob0 3), .ref (ob0 4), .ref (ob0 5), .ref (ob0 6), .ref (ob0 7), .ref (ob0 8), .ref (ob0 9), .int (Md_end s0), .int (Md_nodes s0), .ref (ob0 10), .ref (ob0 11), .int (Md_fields s0), .ref (ob0 12), .ref (ob0 13), .int (Md_pushed s0), .ref (ob0 14), .int (Md_touches s0), .ref (ob0 15), .ref (ob0 16), .ref (ob0 17), .ref (ob0 18), .ref (ad0 0), .ref (ad0 1), .int (Md_length s0)])), ((ob0 1), .inl (cA 1, (Md_kinds s0).1, .inl (Md_kinds s0).2)), ((ob0 2), .inl (cA 0, (Md_values s0).1, .inl (Md_values s0).2)), ((ob0 3), .inl (cA 0, (Md_firsts s0).1, .inl (Md_firsts s0).2)), ((ob0 4), .inl (cA 0, (Md_manies s0).1, .inl (Md_manies s0).2)), ((ob0 5), .inl (cA 2, (Md_said s0).1, .inl (Md_said s0).2)), ((ob0 6), .inl (cA 2, (Md_marked s0).1, .inl (Md_marked s0).2)), ((ob0 7), .inl (cA 0, (Md_leaders s0).1, .inl (Md_leaders s0).2)), ((ob0 8), .inl (cA 0, (Md_trial s0).1, .inl (Md_trial s0).2)), ((ob0 9), .inl (cA 0, (Md_shown s0).1, .inl (Md_shown s0).2)), ((ob0 10), .inl (cA 0, (Md_features s0).1, .inl (Md_features s0).2)), ((ob0 11), .inl (cA 0, (Md_parts s0).1, .inl (Md_parts s0).2)), ((ob0 12), .inl (cA 0, (Md_pushedFeatures s0).1, .inl (Md_pushedFeatures s0).2)), ((ob0 13), .inl (cA 0, (Md_pushedParts s0).1, .inl (Md_pushedParts s0).2)), ((ob0 14), .inl (cA 0, (Md_touched s0).1, .inl (Md_touched s0).2)), ((ob0 15), .inl (cA 0, (Md_reached s0).1, .inl (Md_reached s0).2)), ((ob0 16), .inl (cA 0, (Md_blocks s0).1, .inl (Md_blocks s0).2)), ((ob0 17), .inl (cA 0, (Md_newBlocks s0).1, .inl (Md_newBlocks s0).2)), ((ob0 18), .inl (cA 0, (Md_places s0).1, .inl (Md_places s0).2)), ((ad0 0), .inl (cA 0, (Md_written s0).1, .inl (Md_written s0).2)), ((ad0 1), .inl (cA 0, (Md_other s0).1, .inl (Md_other s0).2))]) (lv' := [(0, .ref (ob0 0)), (1, .int p0)]) rfl rfl ?_
  refine x_iload_n F d_Md_record_0 1 rfl rfl ?_
  refine x_if_lt F 18 d_Md_record_1 (by decide) (fun c9 => ?_) (fun c9 => ?_)
  · replace hm := xm_t hm c9
    refine x_iconst (v := (-1 : Int32)) F d_Md_record_18 (by decide) ?_
    refine x_goto F 28 d_Md_record_19 (by decide) ?_
    replace hm := xm_p_some hm
    obtain ⟨eo, c_o, d_o⟩ := hm
    subst eo
    refine x_sub [0, 1, 2, 3, 4, 5, 6, 7, 8, 9, 10, 11, 12, 13, 14, 15, 16, 17, 18, 19, 20] (by decide) ?_ (xe_i E ad0 (by omega) (by omega) rfl (xz_i _) d_Md_record_28)
    rfl
  · replace hm := xm_f hm c9
    refine x_iload_n F d_Md_record_4 1 rfl rfl ?_
    refine x_sipush (v := (8192 : Int32)) F d_Md_record_5 (by decide) ?_
    refine x_icmp_ge F 18 d_Md_record_8 (by decide) (fun c10 => ?_) (fun c10 => ?_)
    · replace hm := xm_t hm c10
      refine x_iconst (v := (-1 : Int32)) F d_Md_record_18 (by decide) ?_
      refine x_goto F 28 d_Md_record_19 (by decide) ?_
      replace hm := xm_p_some hm
      obtain ⟨eo, c_o, d_o⟩ := hm
      subst eo
      refine x_sub [0, 1, 2, 3, 4, 5, 6, 7, 8, 9, 10, 11, 12, 13, 14, 15, 16, 17, 18, 19, 20] (by decide) ?_ (xe_i E ad0 (by omega) (by omega) rfl (xz_i _) d_Md_record_28)
      rfl
    · replace hm := xm_f hm c10
      refine x_aload_n F d_Md_record_11 0 rfl rfl ?_
      refine x_get F ck_Md hin_Md 0 16 rfl (by decide) kw_650 rfl rfl d_Md_record_12 ?_
      refine x_if_ne F 22 d_Md_record_15 (by decide) (fun c11 => ?_) (fun c11 => ?_)
      · replace hm := xm_f hm c11
        refine x_aload_n F d_Md_record_22 0 rfl rfl ?_
        refine x_iconst (v := (3 : Int32)) F d_Md_record_23 (by decide) ?_
        refine x_iload_n F d_Md_record_24 1 rfl rfl ?_
        replace hm := xm_b_some hm
        obtain ⟨o12, k13, k14, h15, hm, c_o12, d_o12⟩ := hm
        refine x_callV (n := 2) (C := R_Md) (wr := []) F (c_Md_makeOf l D cA n ob0 ad0 s0 (3 : Int32) p0 o12 k13 h15) kw_753 kw_750 kw_752 kw_21 kw_47 ⟨rfl, by decide, by decide, by decide +kernel⟩ rfl (by decide) (by decide) (ci := 8) rfl rfl 0 rfl [0, 1, 2, 3, 4, 5, 6, 7, 8, 9, 10, 11, 12, 13, 14, 15, 16, 17, 18, 19, 20] [] rfl rfl (by decide) (by decide) (by decide) rfl (Nat.le_of_ble_eq_true rfl) (by omega) (by omega) d_Md_record_25 (fun ad16 => ?_)
        refine x_nf (ws' := [((ob0 0), .inr (8, [.ref (ob0 1), .ref (ob0 2), .ref (ob0 3), .ref (ob0 4), .ref (ob0 5), .ref (ob0 6), .ref (ob0 7), .ref (ob0 8), .ref (ob0 9), .int (Md_end (o12.2)), .int (Md_nodes (o12.2)), .ref (ob0 10), .ref (ob0 11), .int (Md_fields (o12.2)), .ref (ob0 12), .ref (ob0 13), .int (Md_pushed (o12.2)), .ref (ob0 14), .int (Md_touches (o12.2)), .ref (ob0 15), .ref (ob0 16), .ref (ob0 17), .ref (ob0 18), .ref (ad16 0), .ref (ad16 1), .int (Md_length (o12.2))])), ((ob0 1), .inl (cA 1, (Md_kinds (o12.2)).1, .inl (Md_kinds (o12.2)).2)), ((ob0 2), .inl (cA 0, (Md_values (o12.2)).1, .inl (Md_values (o12.2)).2)), ((ob0 3), .inl (cA 0, (Md_firsts (o12.2)).1, .inl (Md_firsts (o12.2)).2)), ((ob0 4), .inl (cA 0, (Md_manies (o12.2)).1, .inl (Md_manies (o12.2)).2)), ((ob0 5), .inl (cA 2, (Md_said (o12.2)).1, .inl (Md_said (o12.2)).2)), ((ob0 6), .inl (cA 2, (Md_marked (o12.2)).1, .inl (Md_marked (o12.2)).2)), ((ob0 7), .inl (cA 0, (Md_leaders (o12.2)).1, .inl (Md_leaders (o12.2)).2)), ((ob0 8), .inl (cA 0, (Md_trial (o12.2)).1, .inl (Md_trial (o12.2)).2)), ((ob0 9), .inl (cA 0, (Md_shown (o12.2)).1, .inl (Md_shown (o12.2)).2)), ((ob0 10), .inl (cA 0, (Md_features (o12.2)).1, .inl (Md_features (o12.2)).2)), ((ob0 11), .inl (cA 0, (Md_parts (o12.2)).1, .inl (Md_parts (o12.2)).2)), ((ob0 12), .inl (cA 0, (Md_pushedFeatures (o12.2)).1, .inl (Md_pushedFeatures (o12.2)).2)), ((ob0 13), .inl (cA 0, (Md_pushedParts (o12.2)).1, .inl (Md_pushedParts (o12.2)).2)), ((ob0 14), .inl (cA 0, (Md_touched (o12.2)).1, .inl (Md_touched (o12.2)).2)), ((ob0 15), .inl (cA 0, (Md_reached (o12.2)).1, .inl (Md_reached (o12.2)).2)), ((ob0 16), .inl (cA 0, (Md_blocks (o12.2)).1, .inl (Md_blocks (o12.2)).2)), ((ob0 17), .inl (cA 0, (Md_newBlocks (o12.2)).1, .inl (Md_newBlocks (o12.2)).2)), ((ob0 18), .inl (cA 0, (Md_places (o12.2)).1, .inl (Md_places (o12.2)).2)), ((ad16 0), .inl (cA 0, (Md_written (o12.2)).1, .inl (Md_written (o12.2)).2)), ((ad16 1), .inl (cA 0, (Md_other (o12.2)).1, .inl (Md_other (o12.2)).2))]) (st' := [.int (o12.1)]) rfl rfl ?_
        replace hm := xm_p_some hm
        obtain ⟨eo, c_o, d_o⟩ := hm
        subst eo
        refine x_sub [0, 1, 2, 3, 4, 5, 6, 7, 8, 9, 10, 11, 12, 13, 14, 15, 16, 17, 18, 19, 20] (by decide) ?_ (xe_i E ad16 (by omega) (by omega) rfl (xz_i _) d_Md_record_28)
        rfl
      · replace hm := xm_t hm c11
        refine x_iconst (v := (-1 : Int32)) F d_Md_record_18 (by decide) ?_
        refine x_goto F 28 d_Md_record_19 (by decide) ?_
        replace hm := xm_p_some hm
        obtain ⟨eo, c_o, d_o⟩ := hm
        subst eo
        refine x_sub [0, 1, 2, 3, 4, 5, 6, 7, 8, 9, 10, 11, 12, 13, 14, 15, 16, 17, 18, 19, 20] (by decide) ?_ (xe_i E ad0 (by omega) (by omega) rfl (xz_i _) d_Md_record_28)
        rfl

noncomputable def m_Md_thing (n : Nat) (s0 : S_Md) (p0 : Int32) : MO (Int32 × S_Md) := (if 0 ≤ p0 then (xm_b (m_Md_makeOf n s0 (4 : Int32) p0) (fun o8 => (xm_p ((o8.1), (o8.2))))) else (xm_p ((-1 : Int32), s0)))
set_option maxHeartbeats 4000000 in
set_option maxRecDepth 100000 in
theorem c_Md_thing (l : Launch) (D : va_G) (cA : Nat → ClassId) (n : Nat) (ob0 ad0 : Nat → Nat) (s0 : S_Md) (p0 : Int32) (out : Int32 × S_Md) (k : KC) (hm : m_Md_thing n s0 p0 = some (out, k)) : XM l D cA y_Md_thing b_Md_thing 2 (some FieldType.int) 3 68 [.ref (ob0 0), .int p0] ((w_Md cA ob0 ad0  s0)) k (fun _ => some (.int (out.1))) (fun ad => (w_Md cA ob0 ad  (out.2))) := by
  refine x_met (cc := b_Md_thing) (nL := 2) (ret := (some FieldType.int)) R_Md (by decide) (Nat.le_of_ble_eq_true rfl) rfl (fun X F I E => ?_)
  unfold m_Md_thing at hm
  refine x_nf2 (ws' := [((ob0 0), .inr (8, [.ref (ob0 1), .ref (ob0 2), .ref (ob0 3), .ref (ob0 4), .ref (ob0 5), .ref (ob0 6), .ref (ob0 7), .ref (ob0 8), .ref (ob0 9), .int (Md_end s0), .int (Md_nodes s0), .ref (ob0 10), .ref (ob0 11), .int (Md_fields s0), .ref (ob0 12), .ref (ob0 13), .int (Md_pushed s0), .ref (ob0 14), .int (Md_touches s0), .ref (ob0 15), .ref (ob0 16), .ref (ob0 17), .ref (ob0 18), .ref (ad0 0), .ref (ad0 1), .int (Md_length s0)])), ((ob0 1), .inl (cA 1, (Md_kinds s0).1, .inl (Md_kinds s0).2)), ((ob0 2), .inl (cA 0, (Md_values s0).1, .inl (Md_values s0).2)), ((ob0 3), .inl (cA 0, (Md_firsts s0).1, .inl (Md_firsts s0).2)), ((ob0 4), .inl (cA 0, (Md_manies s0).1, .inl (Md_manies s0).2)), ((ob0 5), .inl (cA 2, (Md_said s0).1, .inl (Md_said s0).2)), ((ob0 6), .inl (cA 2, (Md_marked s0).1, .inl (Md_marked s0).2)), ((ob0 7), .inl (cA 0, (Md_leaders s0).1, .inl (Md_leaders s0).2)), ((ob0 8), .inl (cA 0, (Md_trial s0).1, .inl (Md_trial s0).2)), ((ob0 9), .inl (cA 0, (Md_shown s0).1, .inl (Md_shown s0).2)), ((ob0 10), .inl (cA 0, (Md_features s0).1, .inl (Md_features s0).2)), ((ob0 11), .inl (cA 0, (Md_parts s0).1, .inl (Md_parts s0).2)), ((ob0 12), .inl (cA 0, (Md_pushedFeatures s0).1, .inl (Md_pushedFeatures s0).2)), ((ob0 13), .inl (cA 0, (Md_pushedParts s0).1, .inl (Md_pushedParts s0).2)), ((ob0 14), .inl (cA 0, (Md_touched s0).1, .inl (Md_touched s0).2)), ((ob0 15), .inl (cA 0, (Md_reached s0).1, .inl (Md_reached s0).2)), ((ob0 16), .inl (cA 0, (Md_blocks s0).1, .inl (Md_blocks s0).2)), ((ob0 17), .inl (cA 0, (Md_newBlocks s0).1, .inl (Md_newBlocks s0).2)), ((ob0 18), .inl (cA 0, (Md_places s0).1, .inl (Md_places s0).2)), ((ad0 0), .inl (cA 0, (Md_written s0).1, .inl (Md_written s0).2)), ((ad0 1), .inl (cA 0, (Md_other s0).1, .inl (Md_other s0).2))]) (lv' := [(0, .ref (ob0 0)), (1, .int p0)]) rfl rfl ?_
  refine x_iload_n F d_Md_thing_0 1 rfl rfl ?_
  refine x_if_ge F 8 d_Md_thing_1 (by decide) (fun c7 => ?_) (fun c7 => ?_)
  · replace hm := xm_t hm c7
    refine x_aload_n F d_Md_thing_8 0 rfl rfl ?_
    refine x_iconst (v := (4 : Int32)) F d_Md_thing_9 (by decide) ?_
    refine x_iload_n F d_Md_thing_10 1 rfl rfl ?_
    replace hm := xm_b_some hm
    obtain ⟨o8, k9, k10, h11, hm, c_o8, d_o8⟩ := hm
    refine x_callV (n := 2) (C := R_Md) (wr := []) F (c_Md_makeOf l D cA n ob0 ad0 s0 (4 : Int32) p0 o8 k9 h11) kw_753 kw_750 kw_752 kw_21 kw_47 ⟨rfl, by decide, by decide, by decide +kernel⟩ rfl (by decide) (by decide) (ci := 8) rfl rfl 0 rfl [0, 1, 2, 3, 4, 5, 6, 7, 8, 9, 10, 11, 12, 13, 14, 15, 16, 17, 18, 19, 20] [] rfl rfl (by decide) (by decide) (by decide) rfl (Nat.le_of_ble_eq_true rfl) (by omega) (by omega) d_Md_thing_11 (fun ad12 => ?_)
    refine x_nf (ws' := [((ob0 0), .inr (8, [.ref (ob0 1), .ref (ob0 2), .ref (ob0 3), .ref (ob0 4), .ref (ob0 5), .ref (ob0 6), .ref (ob0 7), .ref (ob0 8), .ref (ob0 9), .int (Md_end (o8.2)), .int (Md_nodes (o8.2)), .ref (ob0 10), .ref (ob0 11), .int (Md_fields (o8.2)), .ref (ob0 12), .ref (ob0 13), .int (Md_pushed (o8.2)), .ref (ob0 14), .int (Md_touches (o8.2)), .ref (ob0 15), .ref (ob0 16), .ref (ob0 17), .ref (ob0 18), .ref (ad12 0), .ref (ad12 1), .int (Md_length (o8.2))])), ((ob0 1), .inl (cA 1, (Md_kinds (o8.2)).1, .inl (Md_kinds (o8.2)).2)), ((ob0 2), .inl (cA 0, (Md_values (o8.2)).1, .inl (Md_values (o8.2)).2)), ((ob0 3), .inl (cA 0, (Md_firsts (o8.2)).1, .inl (Md_firsts (o8.2)).2)), ((ob0 4), .inl (cA 0, (Md_manies (o8.2)).1, .inl (Md_manies (o8.2)).2)), ((ob0 5), .inl (cA 2, (Md_said (o8.2)).1, .inl (Md_said (o8.2)).2)), ((ob0 6), .inl (cA 2, (Md_marked (o8.2)).1, .inl (Md_marked (o8.2)).2)), ((ob0 7), .inl (cA 0, (Md_leaders (o8.2)).1, .inl (Md_leaders (o8.2)).2)), ((ob0 8), .inl (cA 0, (Md_trial (o8.2)).1, .inl (Md_trial (o8.2)).2)), ((ob0 9), .inl (cA 0, (Md_shown (o8.2)).1, .inl (Md_shown (o8.2)).2)), ((ob0 10), .inl (cA 0, (Md_features (o8.2)).1, .inl (Md_features (o8.2)).2)), ((ob0 11), .inl (cA 0, (Md_parts (o8.2)).1, .inl (Md_parts (o8.2)).2)), ((ob0 12), .inl (cA 0, (Md_pushedFeatures (o8.2)).1, .inl (Md_pushedFeatures (o8.2)).2)), ((ob0 13), .inl (cA 0, (Md_pushedParts (o8.2)).1, .inl (Md_pushedParts (o8.2)).2)), ((ob0 14), .inl (cA 0, (Md_touched (o8.2)).1, .inl (Md_touched (o8.2)).2)), ((ob0 15), .inl (cA 0, (Md_reached (o8.2)).1, .inl (Md_reached (o8.2)).2)), ((ob0 16), .inl (cA 0, (Md_blocks (o8.2)).1, .inl (Md_blocks (o8.2)).2)), ((ob0 17), .inl (cA 0, (Md_newBlocks (o8.2)).1, .inl (Md_newBlocks (o8.2)).2)), ((ob0 18), .inl (cA 0, (Md_places (o8.2)).1, .inl (Md_places (o8.2)).2)), ((ad12 0), .inl (cA 0, (Md_written (o8.2)).1, .inl (Md_written (o8.2)).2)), ((ad12 1), .inl (cA 0, (Md_other (o8.2)).1, .inl (Md_other (o8.2)).2))]) (st' := [.int (o8.1)]) rfl rfl ?_
    replace hm := xm_p_some hm
    obtain ⟨eo, c_o, d_o⟩ := hm
    subst eo
    refine x_sub [0, 1, 2, 3, 4, 5, 6, 7, 8, 9, 10, 11, 12, 13, 14, 15, 16, 17, 18, 19, 20] (by decide) ?_ (xe_i E ad12 (by omega) (by omega) rfl (xz_i _) d_Md_thing_14)
    rfl
  · replace hm := xm_f hm c7
    refine x_iconst (v := (-1 : Int32)) F d_Md_thing_4 (by decide) ?_
    refine x_goto F 14 d_Md_thing_5 (by decide) ?_
    replace hm := xm_p_some hm
    obtain ⟨eo, c_o, d_o⟩ := hm
    subst eo
    refine x_sub [0, 1, 2, 3, 4, 5, 6, 7, 8, 9, 10, 11, 12, 13, 14, 15, 16, 17, 18, 19, 20] (by decide) ?_ (xe_i E ad0 (by omega) (by omega) rfl (xz_i _) d_Md_thing_14)
    rfl

noncomputable def L_Md_join_44 (y2 : Int32) (y3 : Int32) (y4 : Int32) (y5 : Int32) (n i : Nat) : Int32 → S_Md → MO (Int32 × S_Md) := Nat.rec (motive := fun _ => Int32 → S_Md → MO (Int32 × S_Md)) (fun _ _ => none) (fun _ ih x6 s0 => (if (Md_end s0) ≤ x6 then (xm_p ((x6, s0))) else (if y4 = y5 then (xm_p ((x6, s0))) else (xm_rd (Md_kinds s0) x6 (fun v30 => (if v30 = (-1 : Int32) then (xm_rd (Md_trial s0) x6 (fun v32 => (xm_wr (Md_trial s0) x6 v32 (fun a33 => (ih (x6 + 1) ((Md_kinds s0), (Md_values s0), (Md_firsts s0), (Md_manies s0), (Md_said s0), (Md_marked s0), (Md_leaders s0), a33, (Md_shown s0), (Md_end s0), (Md_nodes s0), (Md_features s0), (Md_parts s0), (Md_fields s0), (Md_pushedFeatures s0), (Md_pushedParts s0), (Md_pushed s0), (Md_touched s0), (Md_touches s0), (Md_reached s0), (Md_blocks s0), (Md_newBlocks s0), (Md_places s0), (Md_written s0), (Md_other s0), (Md_length s0))))))) else (xm_rd (Md_trial s0) x6 (fun v34 => (if v34 = y5 then (xm_wr (Md_trial s0) x6 y4 (fun a38 => (ih (x6 + 1) ((Md_kinds s0), (Md_values s0), (Md_firsts s0), (Md_manies s0), (Md_said s0), (Md_marked s0), (Md_leaders s0), a38, (Md_shown s0), (Md_end s0), (Md_nodes s0), (Md_features s0), (Md_parts s0), (Md_fields s0), (Md_pushedFeatures s0), (Md_pushedParts s0), (Md_pushed s0), (Md_touched s0), (Md_touches s0), (Md_reached s0), (Md_blocks s0), (Md_newBlocks s0), (Md_places s0), (Md_written s0), (Md_other s0), (Md_length s0))))) else (xm_rd (Md_trial s0) x6 (fun v36 => (xm_wr (Md_trial s0) x6 v36 (fun a37 => (ih (x6 + 1) ((Md_kinds s0), (Md_values s0), (Md_firsts s0), (Md_manies s0), (Md_said s0), (Md_marked s0), (Md_leaders s0), a37, (Md_shown s0), (Md_end s0), (Md_nodes s0), (Md_features s0), (Md_parts s0), (Md_fields s0), (Md_pushedFeatures s0), (Md_pushedParts s0), (Md_pushed s0), (Md_touched s0), (Md_touches s0), (Md_reached s0), (Md_blocks s0), (Md_newBlocks s0), (Md_places s0), (Md_written s0), (Md_other s0), (Md_length s0)))))))))))))))) i
theorem L_Md_join_44_s (y2 : Int32) (y3 : Int32) (y4 : Int32) (y5 : Int32) (n i : Nat) (x6 : Int32) (s0 : S_Md) : L_Md_join_44 y2 y3 y4 y5 n (i + 1) x6 s0 = (if (Md_end s0) ≤ x6 then (xm_p ((x6, s0))) else (if y4 = y5 then (xm_p ((x6, s0))) else (xm_rd (Md_kinds s0) x6 (fun v30 => (if v30 = (-1 : Int32) then (xm_rd (Md_trial s0) x6 (fun v32 => (xm_wr (Md_trial s0) x6 v32 (fun a33 => (L_Md_join_44 y2 y3 y4 y5 n i (x6 + 1) ((Md_kinds s0), (Md_values s0), (Md_firsts s0), (Md_manies s0), (Md_said s0), (Md_marked s0), (Md_leaders s0), a33, (Md_shown s0), (Md_end s0), (Md_nodes s0), (Md_features s0), (Md_parts s0), (Md_fields s0), (Md_pushedFeatures s0), (Md_pushedParts s0), (Md_pushed s0), (Md_touched s0), (Md_touches s0), (Md_reached s0), (Md_blocks s0), (Md_newBlocks s0), (Md_places s0), (Md_written s0), (Md_other s0), (Md_length s0))))))) else (xm_rd (Md_trial s0) x6 (fun v34 => (if v34 = y5 then (xm_wr (Md_trial s0) x6 y4 (fun a38 => (L_Md_join_44 y2 y3 y4 y5 n i (x6 + 1) ((Md_kinds s0), (Md_values s0), (Md_firsts s0), (Md_manies s0), (Md_said s0), (Md_marked s0), (Md_leaders s0), a38, (Md_shown s0), (Md_end s0), (Md_nodes s0), (Md_features s0), (Md_parts s0), (Md_fields s0), (Md_pushedFeatures s0), (Md_pushedParts s0), (Md_pushed s0), (Md_touched s0), (Md_touches s0), (Md_reached s0), (Md_blocks s0), (Md_newBlocks s0), (Md_places s0), (Md_written s0), (Md_other s0), (Md_length s0))))) else (xm_rd (Md_trial s0) x6 (fun v36 => (xm_wr (Md_trial s0) x6 v36 (fun a37 => (L_Md_join_44 y2 y3 y4 y5 n i (x6 + 1) ((Md_kinds s0), (Md_values s0), (Md_firsts s0), (Md_manies s0), (Md_said s0), (Md_marked s0), (Md_leaders s0), a37, (Md_shown s0), (Md_end s0), (Md_nodes s0), (Md_features s0), (Md_parts s0), (Md_fields s0), (Md_pushedFeatures s0), (Md_pushedParts s0), (Md_pushed s0), (Md_touched s0), (Md_touches s0), (Md_reached s0), (Md_blocks s0), (Md_newBlocks s0), (Md_places s0), (Md_written s0), (Md_other s0), (Md_length s0))))))))))))))) := rfl
noncomputable def m_Md_join (n : Nat) (s0 : S_Md) (p1 : Int32) (p2 : Int32) : MO (Int32 × S_Md) := (xm_rd (Md_trial s0) p1 (fun v20 => (xm_rd (Md_trial s0) p2 (fun v21 => (if v21 ≤ v20 then (xm_rd (Md_trial s0) p2 (fun v23 => (xm_rd (Md_trial s0) p1 (fun v24 => (xm_rd (Md_trial s0) p2 (fun v25 => (if v25 ≤ v24 then (xm_rd (Md_trial s0) p1 (fun v27 => (xm_b (L_Md_join_44 p1 p2 v23 v27 n n v27 s0) (fun o39 => (if v23 = v27 then (xm_p ((0 : Int32), (o39.2))) else (xm_p ((1 : Int32), (o39.2)))))))) else (xm_rd (Md_trial s0) p2 (fun v45 => (xm_b (L_Md_join_44 p1 p2 v23 v45 n n v45 s0) (fun o46 => (if v23 = v45 then (xm_p ((0 : Int32), (o46.2))) else (xm_p ((1 : Int32), (o46.2))))))))))))))) else (xm_rd (Md_trial s0) p1 (fun v52 => (xm_rd (Md_trial s0) p1 (fun v53 => (xm_rd (Md_trial s0) p2 (fun v54 => (if v54 ≤ v53 then (xm_rd (Md_trial s0) p1 (fun v56 => (xm_b (L_Md_join_44 p1 p2 v52 v56 n n v56 s0) (fun o57 => (if v52 = v56 then (xm_p ((0 : Int32), (o57.2))) else (xm_p ((1 : Int32), (o57.2)))))))) else (xm_rd (Md_trial s0) p2 (fun v63 => (xm_b (L_Md_join_44 p1 p2 v52 v63 n n v63 s0) (fun o64 => (if v52 = v63 then (xm_p ((0 : Int32), (o64.2))) else (xm_p ((1 : Int32), (o64.2))))))))))))))))))))
set_option maxHeartbeats 4000000 in
set_option maxRecDepth 100000 in
theorem wl_Md_join_44 {X : XT} {l : Launch} {D : va_G} {cA : Nat → ClassId} {mc ms : Nat} (F : XF X l D cA b_Md_join 7 (some FieldType.boolean) R_Md 0 0 mc ms) (n : Nat) (ob0 : Nat → Nat) (y2 : Int32) (y3 : Int32) (y4 : Int32) (y5 : Int32)  : ∀ (i : Nat) (x6 : Int32) (s0 : S_Md) (ad0 : Nat → Nat) (nc ns : Nat) (out : Int32 × S_Md) (k : KC), L_Md_join_44 y2 y3 y4 y5 n i x6 s0 = some (out, k) → nc + k.1 ≤ mc → ns + k.2 ≤ ms → (∀ ad : Nat → Nat, XW X 7 ((w_Md cA ob0 ad  (out.2))) (nc + k.1) (ns + k.2) 99 [(0, .ref (ob0 0)), (1, .ref (ob0 8)), (2, .int y2), (3, .int y3), (4, .int y4), (5, .int y5), (6, .int (out.1))] []) → XW X 7 ((w_Md cA ob0 ad0  s0)) nc ns 44 [(0, .ref (ob0 0)), (1, .ref (ob0 8)), (2, .int y2), (3, .int y3), (4, .int y4), (5, .int y5), (6, .int x6)] [] := by
  intro i
  induction i with
  | zero =>
    intro x6 s0 ad0 nc ns out k hm
    replace hm : (none : MO (Int32 × S_Md)) = some (out, k) := hm
    cases hm
  | succ i ih =>
    intro x6 s0 ad0 nc ns out k hm hc hs KX
    rw [L_Md_join_44_s] at hm
    refine x_ws (ws' := [((ob0 0), .inr (8, [.ref (ob0 1), .ref (ob0 2), .ref (ob0 3), .ref (ob0 4), .ref (ob0 5), .ref (ob0 6), .ref (ob0 7), .ref (ob0 8), .ref (ob0 9), .int (Md_end s0), .int (Md_nodes s0), .ref (ob0 10), .ref (ob0 11), .int (Md_fields s0), .ref (ob0 12), .ref (ob0 13), .int (Md_pushed s0), .ref (ob0 14), .int (Md_touches s0), .ref (ob0 15), .ref (ob0 16), .ref (ob0 17), .ref (ob0 18), .ref (ad0 0), .ref (ad0 1), .int (Md_length s0)])), ((ob0 1), .inl (cA 1, (Md_kinds s0).1, .inl (Md_kinds s0).2)), ((ob0 2), .inl (cA 0, (Md_values s0).1, .inl (Md_values s0).2)), ((ob0 3), .inl (cA 0, (Md_firsts s0).1, .inl (Md_firsts s0).2)), ((ob0 4), .inl (cA 0, (Md_manies s0).1, .inl (Md_manies s0).2)), ((ob0 5), .inl (cA 2, (Md_said s0).1, .inl (Md_said s0).2)), ((ob0 6), .inl (cA 2, (Md_marked s0).1, .inl (Md_marked s0).2)), ((ob0 7), .inl (cA 0, (Md_leaders s0).1, .inl (Md_leaders s0).2)), ((ob0 8), .inl (cA 0, (Md_trial s0).1, .inl (Md_trial s0).2)), ((ob0 9), .inl (cA 0, (Md_shown s0).1, .inl (Md_shown s0).2)), ((ob0 10), .inl (cA 0, (Md_features s0).1, .inl (Md_features s0).2)), ((ob0 11), .inl (cA 0, (Md_parts s0).1, .inl (Md_parts s0).2)), ((ob0 12), .inl (cA 0, (Md_pushedFeatures s0).1, .inl (Md_pushedFeatures s0).2)), ((ob0 13), .inl (cA 0, (Md_pushedParts s0).1, .inl (Md_pushedParts s0).2)), ((ob0 14), .inl (cA 0, (Md_touched s0).1, .inl (Md_touched s0).2)), ((ob0 15), .inl (cA 0, (Md_reached s0).1, .inl (Md_reached s0).2)), ((ob0 16), .inl (cA 0, (Md_blocks s0).1, .inl (Md_blocks s0).2)), ((ob0 17), .inl (cA 0, (Md_newBlocks s0).1, .inl (Md_newBlocks s0).2)), ((ob0 18), .inl (cA 0, (Md_places s0).1, .inl (Md_places s0).2)), ((ad0 0), .inl (cA 0, (Md_written s0).1, .inl (Md_written s0).2)), ((ad0 1), .inl (cA 0, (Md_other s0).1, .inl (Md_other s0).2))]) rfl ?_
    refine x_iload F d_Md_join_44 6 rfl ?_
    refine x_aload_n F d_Md_join_46 0 rfl rfl ?_
    refine x_get F ck_Md hin_Md 0 9 rfl (by decide) kw_643 rfl rfl d_Md_join_47 ?_
    refine x_icmp_ge F 99 d_Md_join_50 (by decide) (fun c28 => ?_) (fun c28 => ?_)
    · replace hm := xm_t hm c28
      replace hm := xm_p_some hm
      obtain ⟨eo, c_o, d_o⟩ := hm
      subst eo
      refine x_sub [0, 1, 2, 3, 4, 5, 6, 7, 8, 9, 10, 11, 12, 13, 14, 15, 16, 17, 18, 19, 20] (by decide) ?_ (x_lv [0, 1, 2, 3, 4, 5, 6] ?_ (x_cs (by omega) (by omega) (KX ad0)))
      · rfl
      · rfl
    · replace hm := xm_f hm c28
      refine x_iload F d_Md_join_53 4 rfl ?_
      refine x_iload F d_Md_join_55 5 rfl ?_
      refine x_icmp_eq F 99 d_Md_join_57 (by decide) (fun c29 => ?_) (fun c29 => ?_)
      · replace hm := xm_t hm c29
        replace hm := xm_p_some hm
        obtain ⟨eo, c_o, d_o⟩ := hm
        subst eo
        refine x_sub [0, 1, 2, 3, 4, 5, 6, 7, 8, 9, 10, 11, 12, 13, 14, 15, 16, 17, 18, 19, 20] (by decide) ?_ (x_lv [0, 1, 2, 3, 4, 5, 6] ?_ (x_cs (by omega) (by omega) (KX ad0)))
        · rfl
        · rfl
      · replace hm := xm_f hm c29
        refine x_aload_n F d_Md_join_60 1 rfl rfl ?_
        refine x_iload F d_Md_join_61 6 rfl ?_
        refine x_aload_n F d_Md_join_63 0 rfl rfl ?_
        refine x_get F ck_Md hin_Md 0 0 rfl (by decide) kw_634 rfl rfl d_Md_join_64 ?_
        refine x_iload F d_Md_join_67 6 rfl ?_
        replace hm := xm_rd_some hm
        obtain ⟨v30, e_v30, b_v30, hm⟩ := hm
        refine x_bald (x := (Md_kinds s0)) F 1 rfl e_v30 b_v30 d_Md_join_69 ?_
        refine x_iconst (v := (-1 : Int32)) F d_Md_join_70 (by decide) ?_
        refine x_icmp_eq F 88 d_Md_join_71 (by decide) (fun c31 => ?_) (fun c31 => ?_)
        · replace hm := xm_t hm c31
          refine x_aload_n F d_Md_join_88 1 rfl rfl ?_
          refine x_iload F d_Md_join_89 6 rfl ?_
          replace hm := xm_rd_some hm
          obtain ⟨v32, e_v32, b_v32, hm⟩ := hm
          refine x_iald (x := (Md_trial s0)) F 8 rfl e_v32 b_v32 d_Md_join_91 ?_
          replace hm := xm_wr_some hm
          obtain ⟨a33, e_a33, b_a33, hm⟩ := hm
          refine x_iast (x := (Md_trial s0)) (x' := a33) (ws' := [((ob0 0), .inr (8, [.ref (ob0 1), .ref (ob0 2), .ref (ob0 3), .ref (ob0 4), .ref (ob0 5), .ref (ob0 6), .ref (ob0 7), .ref (ob0 8), .ref (ob0 9), .int (Md_end s0), .int (Md_nodes s0), .ref (ob0 10), .ref (ob0 11), .int (Md_fields s0), .ref (ob0 12), .ref (ob0 13), .int (Md_pushed s0), .ref (ob0 14), .int (Md_touches s0), .ref (ob0 15), .ref (ob0 16), .ref (ob0 17), .ref (ob0 18), .ref (ad0 0), .ref (ad0 1), .int (Md_length s0)])), ((ob0 1), .inl (cA 1, (Md_kinds s0).1, .inl (Md_kinds s0).2)), ((ob0 2), .inl (cA 0, (Md_values s0).1, .inl (Md_values s0).2)), ((ob0 3), .inl (cA 0, (Md_firsts s0).1, .inl (Md_firsts s0).2)), ((ob0 4), .inl (cA 0, (Md_manies s0).1, .inl (Md_manies s0).2)), ((ob0 5), .inl (cA 2, (Md_said s0).1, .inl (Md_said s0).2)), ((ob0 6), .inl (cA 2, (Md_marked s0).1, .inl (Md_marked s0).2)), ((ob0 7), .inl (cA 0, (Md_leaders s0).1, .inl (Md_leaders s0).2)), ((ob0 8), .inl (cA 0, a33.1, .inl a33.2)), ((ob0 9), .inl (cA 0, (Md_shown s0).1, .inl (Md_shown s0).2)), ((ob0 10), .inl (cA 0, (Md_features s0).1, .inl (Md_features s0).2)), ((ob0 11), .inl (cA 0, (Md_parts s0).1, .inl (Md_parts s0).2)), ((ob0 12), .inl (cA 0, (Md_pushedFeatures s0).1, .inl (Md_pushedFeatures s0).2)), ((ob0 13), .inl (cA 0, (Md_pushedParts s0).1, .inl (Md_pushedParts s0).2)), ((ob0 14), .inl (cA 0, (Md_touched s0).1, .inl (Md_touched s0).2)), ((ob0 15), .inl (cA 0, (Md_reached s0).1, .inl (Md_reached s0).2)), ((ob0 16), .inl (cA 0, (Md_blocks s0).1, .inl (Md_blocks s0).2)), ((ob0 17), .inl (cA 0, (Md_newBlocks s0).1, .inl (Md_newBlocks s0).2)), ((ob0 18), .inl (cA 0, (Md_places s0).1, .inl (Md_places s0).2)), ((ad0 0), .inl (cA 0, (Md_written s0).1, .inl (Md_written s0).2)), ((ad0 1), .inl (cA 0, (Md_other s0).1, .inl (Md_other s0).2))]) F 8 rfl e_a33 b_a33 rfl d_Md_join_92 ?_
          refine x_iinc (v := (x6 + 1)) (lv' := [(6, .int (x6 + 1)), (0, .ref (ob0 0)), (1, .ref (ob0 8)), (2, .int y2), (3, .int y3), (4, .int y4), (5, .int y5)]) F d_Md_join_93 6 rfl rfl (by decide) rfl ?_
          refine x_goto F 44 d_Md_join_96 (by decide) ?_
          refine x_sub [0, 1, 2, 3, 4, 5, 6, 7, 8, 9, 10, 11, 12, 13, 14, 15, 16, 17, 18, 19, 20] (by decide) ?_ (x_lv [1, 2, 3, 4, 5, 6, 0] ?_ (ih (x6 + 1) ((Md_kinds s0), (Md_values s0), (Md_firsts s0), (Md_manies s0), (Md_said s0), (Md_marked s0), (Md_leaders s0), a33, (Md_shown s0), (Md_end s0), (Md_nodes s0), (Md_features s0), (Md_parts s0), (Md_fields s0), (Md_pushedFeatures s0), (Md_pushedParts s0), (Md_pushed s0), (Md_touched s0), (Md_touches s0), (Md_reached s0), (Md_blocks s0), (Md_newBlocks s0), (Md_places s0), (Md_written s0), (Md_other s0), (Md_length s0)) ad0 _ _ out k hm (by omega) (by omega) (fun ad => x_cs (by omega) (by omega) (KX ad))))
          · rfl
          · rfl
        · replace hm := xm_f hm c31
          refine x_aload_n F d_Md_join_74 1 rfl rfl ?_
          refine x_iload F d_Md_join_75 6 rfl ?_
          replace hm := xm_rd_some hm
          obtain ⟨v34, e_v34, b_v34, hm⟩ := hm
          refine x_iald (x := (Md_trial s0)) F 8 rfl e_v34 b_v34 d_Md_join_77 ?_
          refine x_iload F d_Md_join_78 5 rfl ?_
          refine x_icmp_ne F 88 d_Md_join_80 (by decide) (fun c35 => ?_) (fun c35 => ?_)
          · replace hm := xm_f hm c35
            refine x_aload_n F d_Md_join_88 1 rfl rfl ?_
            refine x_iload F d_Md_join_89 6 rfl ?_
            replace hm := xm_rd_some hm
            obtain ⟨v36, e_v36, b_v36, hm⟩ := hm
            refine x_iald (x := (Md_trial s0)) F 8 rfl e_v36 b_v36 d_Md_join_91 ?_
            replace hm := xm_wr_some hm
            obtain ⟨a37, e_a37, b_a37, hm⟩ := hm
            refine x_iast (x := (Md_trial s0)) (x' := a37) (ws' := [((ob0 0), .inr (8, [.ref (ob0 1), .ref (ob0 2), .ref (ob0 3), .ref (ob0 4), .ref (ob0 5), .ref (ob0 6), .ref (ob0 7), .ref (ob0 8), .ref (ob0 9), .int (Md_end s0), .int (Md_nodes s0), .ref (ob0 10), .ref (ob0 11), .int (Md_fields s0), .ref (ob0 12), .ref (ob0 13), .int (Md_pushed s0), .ref (ob0 14), .int (Md_touches s0), .ref (ob0 15), .ref (ob0 16), .ref (ob0 17), .ref (ob0 18), .ref (ad0 0), .ref (ad0 1), .int (Md_length s0)])), ((ob0 1), .inl (cA 1, (Md_kinds s0).1, .inl (Md_kinds s0).2)), ((ob0 2), .inl (cA 0, (Md_values s0).1, .inl (Md_values s0).2)), ((ob0 3), .inl (cA 0, (Md_firsts s0).1, .inl (Md_firsts s0).2)), ((ob0 4), .inl (cA 0, (Md_manies s0).1, .inl (Md_manies s0).2)), ((ob0 5), .inl (cA 2, (Md_said s0).1, .inl (Md_said s0).2)), ((ob0 6), .inl (cA 2, (Md_marked s0).1, .inl (Md_marked s0).2)), ((ob0 7), .inl (cA 0, (Md_leaders s0).1, .inl (Md_leaders s0).2)), ((ob0 8), .inl (cA 0, a37.1, .inl a37.2)), ((ob0 9), .inl (cA 0, (Md_shown s0).1, .inl (Md_shown s0).2)), ((ob0 10), .inl (cA 0, (Md_features s0).1, .inl (Md_features s0).2)), ((ob0 11), .inl (cA 0, (Md_parts s0).1, .inl (Md_parts s0).2)), ((ob0 12), .inl (cA 0, (Md_pushedFeatures s0).1, .inl (Md_pushedFeatures s0).2)), ((ob0 13), .inl (cA 0, (Md_pushedParts s0).1, .inl (Md_pushedParts s0).2)), ((ob0 14), .inl (cA 0, (Md_touched s0).1, .inl (Md_touched s0).2)), ((ob0 15), .inl (cA 0, (Md_reached s0).1, .inl (Md_reached s0).2)), ((ob0 16), .inl (cA 0, (Md_blocks s0).1, .inl (Md_blocks s0).2)), ((ob0 17), .inl (cA 0, (Md_newBlocks s0).1, .inl (Md_newBlocks s0).2)), ((ob0 18), .inl (cA 0, (Md_places s0).1, .inl (Md_places s0).2)), ((ad0 0), .inl (cA 0, (Md_written s0).1, .inl (Md_written s0).2)), ((ad0 1), .inl (cA 0, (Md_other s0).1, .inl (Md_other s0).2))]) F 8 rfl e_a37 b_a37 rfl d_Md_join_92 ?_
            refine x_iinc (v := (x6 + 1)) (lv' := [(6, .int (x6 + 1)), (0, .ref (ob0 0)), (1, .ref (ob0 8)), (2, .int y2), (3, .int y3), (4, .int y4), (5, .int y5)]) F d_Md_join_93 6 rfl rfl (by decide) rfl ?_
            refine x_goto F 44 d_Md_join_96 (by decide) ?_
            refine x_sub [0, 1, 2, 3, 4, 5, 6, 7, 8, 9, 10, 11, 12, 13, 14, 15, 16, 17, 18, 19, 20] (by decide) ?_ (x_lv [1, 2, 3, 4, 5, 6, 0] ?_ (ih (x6 + 1) ((Md_kinds s0), (Md_values s0), (Md_firsts s0), (Md_manies s0), (Md_said s0), (Md_marked s0), (Md_leaders s0), a37, (Md_shown s0), (Md_end s0), (Md_nodes s0), (Md_features s0), (Md_parts s0), (Md_fields s0), (Md_pushedFeatures s0), (Md_pushedParts s0), (Md_pushed s0), (Md_touched s0), (Md_touches s0), (Md_reached s0), (Md_blocks s0), (Md_newBlocks s0), (Md_places s0), (Md_written s0), (Md_other s0), (Md_length s0)) ad0 _ _ out k hm (by omega) (by omega) (fun ad => x_cs (by omega) (by omega) (KX ad))))
            · rfl
            · rfl
          · replace hm := xm_t hm c35
            refine x_iload F d_Md_join_83 4 rfl ?_
            refine x_goto F 92 d_Md_join_85 (by decide) ?_
            replace hm := xm_wr_some hm
            obtain ⟨a38, e_a38, b_a38, hm⟩ := hm
            refine x_iast (x := (Md_trial s0)) (x' := a38) (ws' := [((ob0 0), .inr (8, [.ref (ob0 1), .ref (ob0 2), .ref (ob0 3), .ref (ob0 4), .ref (ob0 5), .ref (ob0 6), .ref (ob0 7), .ref (ob0 8), .ref (ob0 9), .int (Md_end s0), .int (Md_nodes s0), .ref (ob0 10), .ref (ob0 11), .int (Md_fields s0), .ref (ob0 12), .ref (ob0 13), .int (Md_pushed s0), .ref (ob0 14), .int (Md_touches s0), .ref (ob0 15), .ref (ob0 16), .ref (ob0 17), .ref (ob0 18), .ref (ad0 0), .ref (ad0 1), .int (Md_length s0)])), ((ob0 1), .inl (cA 1, (Md_kinds s0).1, .inl (Md_kinds s0).2)), ((ob0 2), .inl (cA 0, (Md_values s0).1, .inl (Md_values s0).2)), ((ob0 3), .inl (cA 0, (Md_firsts s0).1, .inl (Md_firsts s0).2)), ((ob0 4), .inl (cA 0, (Md_manies s0).1, .inl (Md_manies s0).2)), ((ob0 5), .inl (cA 2, (Md_said s0).1, .inl (Md_said s0).2)), ((ob0 6), .inl (cA 2, (Md_marked s0).1, .inl (Md_marked s0).2)), ((ob0 7), .inl (cA 0, (Md_leaders s0).1, .inl (Md_leaders s0).2)), ((ob0 8), .inl (cA 0, a38.1, .inl a38.2)), ((ob0 9), .inl (cA 0, (Md_shown s0).1, .inl (Md_shown s0).2)), ((ob0 10), .inl (cA 0, (Md_features s0).1, .inl (Md_features s0).2)), ((ob0 11), .inl (cA 0, (Md_parts s0).1, .inl (Md_parts s0).2)), ((ob0 12), .inl (cA 0, (Md_pushedFeatures s0).1, .inl (Md_pushedFeatures s0).2)), ((ob0 13), .inl (cA 0, (Md_pushedParts s0).1, .inl (Md_pushedParts s0).2)), ((ob0 14), .inl (cA 0, (Md_touched s0).1, .inl (Md_touched s0).2)), ((ob0 15), .inl (cA 0, (Md_reached s0).1, .inl (Md_reached s0).2)), ((ob0 16), .inl (cA 0, (Md_blocks s0).1, .inl (Md_blocks s0).2)), ((ob0 17), .inl (cA 0, (Md_newBlocks s0).1, .inl (Md_newBlocks s0).2)), ((ob0 18), .inl (cA 0, (Md_places s0).1, .inl (Md_places s0).2)), ((ad0 0), .inl (cA 0, (Md_written s0).1, .inl (Md_written s0).2)), ((ad0 1), .inl (cA 0, (Md_other s0).1, .inl (Md_other s0).2))]) F 8 rfl e_a38 b_a38 rfl d_Md_join_92 ?_
            refine x_iinc (v := (x6 + 1)) (lv' := [(6, .int (x6 + 1)), (0, .ref (ob0 0)), (1, .ref (ob0 8)), (2, .int y2), (3, .int y3), (4, .int y4), (5, .int y5)]) F d_Md_join_93 6 rfl rfl (by decide) rfl ?_
            refine x_goto F 44 d_Md_join_96 (by decide) ?_
            refine x_sub [0, 1, 2, 3, 4, 5, 6, 7, 8, 9, 10, 11, 12, 13, 14, 15, 16, 17, 18, 19, 20] (by decide) ?_ (x_lv [1, 2, 3, 4, 5, 6, 0] ?_ (ih (x6 + 1) ((Md_kinds s0), (Md_values s0), (Md_firsts s0), (Md_manies s0), (Md_said s0), (Md_marked s0), (Md_leaders s0), a38, (Md_shown s0), (Md_end s0), (Md_nodes s0), (Md_features s0), (Md_parts s0), (Md_fields s0), (Md_pushedFeatures s0), (Md_pushedParts s0), (Md_pushed s0), (Md_touched s0), (Md_touches s0), (Md_reached s0), (Md_blocks s0), (Md_newBlocks s0), (Md_places s0), (Md_written s0), (Md_other s0), (Md_length s0)) ad0 _ _ out k hm (by omega) (by omega) (fun ad => x_cs (by omega) (by omega) (KX ad))))
            · rfl
            · rfl
set_option maxHeartbeats 4000000 in
set_option maxRecDepth 100000 in
theorem c_Md_join (l : Launch) (D : va_G) (cA : Nat → ClassId) (n : Nat) (ob0 ad0 : Nat → Nat) (s0 : S_Md) (p1 : Int32) (p2 : Int32) (out : Int32 × S_Md) (k : KC) (hm : m_Md_join n s0 p1 p2 = some (out, k)) : XM l D cA y_Md_join b_Md_join 7 (some FieldType.boolean) 0 0 [.ref (ob0 0), .ref (ob0 8), .int p1, .int p2] ((w_Md cA ob0 ad0  s0)) k (fun _ => some (.int (out.1))) (fun ad => (w_Md cA ob0 ad  (out.2))) := by
  refine x_met (cc := b_Md_join) (nL := 7) (ret := (some FieldType.boolean)) R_Md (by decide) (Nat.le_of_ble_eq_true rfl) rfl (fun X F I E => ?_)
  unfold m_Md_join at hm
  refine x_nf2 (ws' := [((ob0 0), .inr (8, [.ref (ob0 1), .ref (ob0 2), .ref (ob0 3), .ref (ob0 4), .ref (ob0 5), .ref (ob0 6), .ref (ob0 7), .ref (ob0 8), .ref (ob0 9), .int (Md_end s0), .int (Md_nodes s0), .ref (ob0 10), .ref (ob0 11), .int (Md_fields s0), .ref (ob0 12), .ref (ob0 13), .int (Md_pushed s0), .ref (ob0 14), .int (Md_touches s0), .ref (ob0 15), .ref (ob0 16), .ref (ob0 17), .ref (ob0 18), .ref (ad0 0), .ref (ad0 1), .int (Md_length s0)])), ((ob0 1), .inl (cA 1, (Md_kinds s0).1, .inl (Md_kinds s0).2)), ((ob0 2), .inl (cA 0, (Md_values s0).1, .inl (Md_values s0).2)), ((ob0 3), .inl (cA 0, (Md_firsts s0).1, .inl (Md_firsts s0).2)), ((ob0 4), .inl (cA 0, (Md_manies s0).1, .inl (Md_manies s0).2)), ((ob0 5), .inl (cA 2, (Md_said s0).1, .inl (Md_said s0).2)), ((ob0 6), .inl (cA 2, (Md_marked s0).1, .inl (Md_marked s0).2)), ((ob0 7), .inl (cA 0, (Md_leaders s0).1, .inl (Md_leaders s0).2)), ((ob0 8), .inl (cA 0, (Md_trial s0).1, .inl (Md_trial s0).2)), ((ob0 9), .inl (cA 0, (Md_shown s0).1, .inl (Md_shown s0).2)), ((ob0 10), .inl (cA 0, (Md_features s0).1, .inl (Md_features s0).2)), ((ob0 11), .inl (cA 0, (Md_parts s0).1, .inl (Md_parts s0).2)), ((ob0 12), .inl (cA 0, (Md_pushedFeatures s0).1, .inl (Md_pushedFeatures s0).2)), ((ob0 13), .inl (cA 0, (Md_pushedParts s0).1, .inl (Md_pushedParts s0).2)), ((ob0 14), .inl (cA 0, (Md_touched s0).1, .inl (Md_touched s0).2)), ((ob0 15), .inl (cA 0, (Md_reached s0).1, .inl (Md_reached s0).2)), ((ob0 16), .inl (cA 0, (Md_blocks s0).1, .inl (Md_blocks s0).2)), ((ob0 17), .inl (cA 0, (Md_newBlocks s0).1, .inl (Md_newBlocks s0).2)), ((ob0 18), .inl (cA 0, (Md_places s0).1, .inl (Md_places s0).2)), ((ad0 0), .inl (cA 0, (Md_written s0).1, .inl (Md_written s0).2)), ((ad0 1), .inl (cA 0, (Md_other s0).1, .inl (Md_other s0).2))]) (lv' := [(0, .ref (ob0 0)), (1, .ref (ob0 8)), (2, .int p1), (3, .int p2)]) rfl rfl ?_
  refine x_aload_n F d_Md_join_0 1 rfl rfl ?_
  refine x_iload_n F d_Md_join_1 2 rfl rfl ?_
  replace hm := xm_rd_some hm
  obtain ⟨v20, e_v20, b_v20, hm⟩ := hm
  refine x_iald (x := (Md_trial s0)) F 8 rfl e_v20 b_v20 d_Md_join_2 ?_
  refine x_aload_n F d_Md_join_3 1 rfl rfl ?_
  refine x_iload_n F d_Md_join_4 3 rfl rfl ?_
  replace hm := xm_rd_some hm
  obtain ⟨v21, e_v21, b_v21, hm⟩ := hm
  refine x_iald (x := (Md_trial s0)) F 8 rfl e_v21 b_v21 d_Md_join_5 ?_
  refine x_icmp_ge F 15 d_Md_join_6 (by decide) (fun c22 => ?_) (fun c22 => ?_)
  · replace hm := xm_t hm c22
    refine x_aload_n F d_Md_join_15 1 rfl rfl ?_
    refine x_iload_n F d_Md_join_16 3 rfl rfl ?_
    replace hm := xm_rd_some hm
    obtain ⟨v23, e_v23, b_v23, hm⟩ := hm
    refine x_iald (x := (Md_trial s0)) F 8 rfl e_v23 b_v23 d_Md_join_17 ?_
    refine x_istore (lv' := [(4, .int v23), (0, .ref (ob0 0)), (1, .ref (ob0 8)), (2, .int p1), (3, .int p2)]) F d_Md_join_18 (by decide) rfl ?_
    refine x_aload_n F d_Md_join_20 2 rfl rfl ?_
    refine x_iload_n F d_Md_join_21 3 rfl rfl ?_
    replace hm := xm_rd_some hm
    obtain ⟨v24, e_v24, b_v24, hm⟩ := hm
    refine x_iald (x := (Md_trial s0)) F 8 rfl e_v24 b_v24 d_Md_join_22 ?_
    refine x_aload_n F d_Md_join_23 2 rfl rfl ?_
    refine x_iload_n F d_Md_join_24 4 rfl rfl ?_
    replace hm := xm_rd_some hm
    obtain ⟨v25, e_v25, b_v25, hm⟩ := hm
    refine x_iald (x := (Md_trial s0)) F 8 rfl e_v25 b_v25 d_Md_join_25 ?_
    refine x_icmp_ge F 35 d_Md_join_26 (by decide) (fun c26 => ?_) (fun c26 => ?_)
    · replace hm := xm_t hm c26
      refine x_aload_n F d_Md_join_35 2 rfl rfl ?_
      refine x_iload_n F d_Md_join_36 3 rfl rfl ?_
      replace hm := xm_rd_some hm
      obtain ⟨v27, e_v27, b_v27, hm⟩ := hm
      refine x_iald (x := (Md_trial s0)) F 8 rfl e_v27 b_v27 d_Md_join_37 ?_
      refine x_istore (lv' := [(5, .int v27), (4, .int v23), (0, .ref (ob0 0)), (1, .ref (ob0 8)), (2, .int p1), (3, .int p2)]) F d_Md_join_38 (by decide) rfl ?_
      refine x_iload F d_Md_join_40 0 rfl ?_
      refine x_istore (lv' := [(6, .int v27), (5, .int v27), (4, .int v23), (0, .ref (ob0 0)), (1, .ref (ob0 8)), (2, .int p1), (3, .int p2)]) F d_Md_join_42 (by decide) rfl ?_
      replace hm := xm_b_some hm
      obtain ⟨o39, k40, k41, h42, hm, c_o39, d_o39⟩ := hm
      refine x_sub [0, 1, 2, 3, 4, 5, 6, 7, 8, 9, 10, 11, 12, 13, 14, 15, 16, 17, 18, 19, 20] (by decide) ?_ (x_lv [3, 4, 5, 6, 2, 1, 0] ?_ (wl_Md_join_44 F n ob0 p1 p2 v23 v27  n v27 s0 ad0 _ _ o39 k40 h42 (by omega) (by omega) (fun ad43 => ?_)))
      · rfl
      · rfl
      refine x_nf2 (ws' := [((ob0 0), .inr (8, [.ref (ob0 1), .ref (ob0 2), .ref (ob0 3), .ref (ob0 4), .ref (ob0 5), .ref (ob0 6), .ref (ob0 7), .ref (ob0 8), .ref (ob0 9), .int (Md_end (o39.2)), .int (Md_nodes (o39.2)), .ref (ob0 10), .ref (ob0 11), .int (Md_fields (o39.2)), .ref (ob0 12), .ref (ob0 13), .int (Md_pushed (o39.2)), .ref (ob0 14), .int (Md_touches (o39.2)), .ref (ob0 15), .ref (ob0 16), .ref (ob0 17), .ref (ob0 18), .ref (ad43 0), .ref (ad43 1), .int (Md_length (o39.2))])), ((ob0 1), .inl (cA 1, (Md_kinds (o39.2)).1, .inl (Md_kinds (o39.2)).2)), ((ob0 2), .inl (cA 0, (Md_values (o39.2)).1, .inl (Md_values (o39.2)).2)), ((ob0 3), .inl (cA 0, (Md_firsts (o39.2)).1, .inl (Md_firsts (o39.2)).2)), ((ob0 4), .inl (cA 0, (Md_manies (o39.2)).1, .inl (Md_manies (o39.2)).2)), ((ob0 5), .inl (cA 2, (Md_said (o39.2)).1, .inl (Md_said (o39.2)).2)), ((ob0 6), .inl (cA 2, (Md_marked (o39.2)).1, .inl (Md_marked (o39.2)).2)), ((ob0 7), .inl (cA 0, (Md_leaders (o39.2)).1, .inl (Md_leaders (o39.2)).2)), ((ob0 8), .inl (cA 0, (Md_trial (o39.2)).1, .inl (Md_trial (o39.2)).2)), ((ob0 9), .inl (cA 0, (Md_shown (o39.2)).1, .inl (Md_shown (o39.2)).2)), ((ob0 10), .inl (cA 0, (Md_features (o39.2)).1, .inl (Md_features (o39.2)).2)), ((ob0 11), .inl (cA 0, (Md_parts (o39.2)).1, .inl (Md_parts (o39.2)).2)), ((ob0 12), .inl (cA 0, (Md_pushedFeatures (o39.2)).1, .inl (Md_pushedFeatures (o39.2)).2)), ((ob0 13), .inl (cA 0, (Md_pushedParts (o39.2)).1, .inl (Md_pushedParts (o39.2)).2)), ((ob0 14), .inl (cA 0, (Md_touched (o39.2)).1, .inl (Md_touched (o39.2)).2)), ((ob0 15), .inl (cA 0, (Md_reached (o39.2)).1, .inl (Md_reached (o39.2)).2)), ((ob0 16), .inl (cA 0, (Md_blocks (o39.2)).1, .inl (Md_blocks (o39.2)).2)), ((ob0 17), .inl (cA 0, (Md_newBlocks (o39.2)).1, .inl (Md_newBlocks (o39.2)).2)), ((ob0 18), .inl (cA 0, (Md_places (o39.2)).1, .inl (Md_places (o39.2)).2)), ((ad43 0), .inl (cA 0, (Md_written (o39.2)).1, .inl (Md_written (o39.2)).2)), ((ad43 1), .inl (cA 0, (Md_other (o39.2)).1, .inl (Md_other (o39.2)).2))]) (lv' := [(0, .ref (ob0 0)), (1, .ref (ob0 8)), (2, .int p1), (3, .int p2), (4, .int v23), (5, .int v27), (6, .int (o39.1))]) rfl rfl ?_
      refine x_iload F d_Md_join_99 4 rfl ?_
      refine x_iload F d_Md_join_101 5 rfl ?_
      refine x_icmp_eq F 110 d_Md_join_103 (by decide) (fun c44 => ?_) (fun c44 => ?_)
      · replace hm := xm_t hm c44
        refine x_iconst (v := (0 : Int32)) F d_Md_join_110 (by decide) ?_
        replace hm := xm_p_some hm
        obtain ⟨eo, c_o, d_o⟩ := hm
        subst eo
        refine x_sub [0, 1, 2, 3, 4, 5, 6, 7, 8, 9, 10, 11, 12, 13, 14, 15, 16, 17, 18, 19, 20] (by decide) ?_ (xe_i E ad43 (by omega) (by omega) rfl xz_0 d_Md_join_111)
        rfl
      · replace hm := xm_f hm c44
        refine x_iconst (v := (1 : Int32)) F d_Md_join_106 (by decide) ?_
        refine x_goto F 111 d_Md_join_107 (by decide) ?_
        replace hm := xm_p_some hm
        obtain ⟨eo, c_o, d_o⟩ := hm
        subst eo
        refine x_sub [0, 1, 2, 3, 4, 5, 6, 7, 8, 9, 10, 11, 12, 13, 14, 15, 16, 17, 18, 19, 20] (by decide) ?_ (xe_i E ad43 (by omega) (by omega) rfl xz_1 d_Md_join_111)
        rfl
    · replace hm := xm_f hm c26
      refine x_aload_n F d_Md_join_29 2 rfl rfl ?_
      refine x_iload_n F d_Md_join_30 4 rfl rfl ?_
      replace hm := xm_rd_some hm
      obtain ⟨v45, e_v45, b_v45, hm⟩ := hm
      refine x_iald (x := (Md_trial s0)) F 8 rfl e_v45 b_v45 d_Md_join_31 ?_
      refine x_goto F 38 d_Md_join_32 (by decide) ?_
      refine x_istore (lv' := [(5, .int v45), (4, .int v23), (0, .ref (ob0 0)), (1, .ref (ob0 8)), (2, .int p1), (3, .int p2)]) F d_Md_join_38 (by decide) rfl ?_
      refine x_iload F d_Md_join_40 0 rfl ?_
      refine x_istore (lv' := [(6, .int v45), (5, .int v45), (4, .int v23), (0, .ref (ob0 0)), (1, .ref (ob0 8)), (2, .int p1), (3, .int p2)]) F d_Md_join_42 (by decide) rfl ?_
      replace hm := xm_b_some hm
      obtain ⟨o46, k47, k48, h49, hm, c_o46, d_o46⟩ := hm
      refine x_sub [0, 1, 2, 3, 4, 5, 6, 7, 8, 9, 10, 11, 12, 13, 14, 15, 16, 17, 18, 19, 20] (by decide) ?_ (x_lv [3, 4, 5, 6, 2, 1, 0] ?_ (wl_Md_join_44 F n ob0 p1 p2 v23 v45  n v45 s0 ad0 _ _ o46 k47 h49 (by omega) (by omega) (fun ad50 => ?_)))
      · rfl
      · rfl
      refine x_nf2 (ws' := [((ob0 0), .inr (8, [.ref (ob0 1), .ref (ob0 2), .ref (ob0 3), .ref (ob0 4), .ref (ob0 5), .ref (ob0 6), .ref (ob0 7), .ref (ob0 8), .ref (ob0 9), .int (Md_end (o46.2)), .int (Md_nodes (o46.2)), .ref (ob0 10), .ref (ob0 11), .int (Md_fields (o46.2)), .ref (ob0 12), .ref (ob0 13), .int (Md_pushed (o46.2)), .ref (ob0 14), .int (Md_touches (o46.2)), .ref (ob0 15), .ref (ob0 16), .ref (ob0 17), .ref (ob0 18), .ref (ad50 0), .ref (ad50 1), .int (Md_length (o46.2))])), ((ob0 1), .inl (cA 1, (Md_kinds (o46.2)).1, .inl (Md_kinds (o46.2)).2)), ((ob0 2), .inl (cA 0, (Md_values (o46.2)).1, .inl (Md_values (o46.2)).2)), ((ob0 3), .inl (cA 0, (Md_firsts (o46.2)).1, .inl (Md_firsts (o46.2)).2)), ((ob0 4), .inl (cA 0, (Md_manies (o46.2)).1, .inl (Md_manies (o46.2)).2)), ((ob0 5), .inl (cA 2, (Md_said (o46.2)).1, .inl (Md_said (o46.2)).2)), ((ob0 6), .inl (cA 2, (Md_marked (o46.2)).1, .inl (Md_marked (o46.2)).2)), ((ob0 7), .inl (cA 0, (Md_leaders (o46.2)).1, .inl (Md_leaders (o46.2)).2)), ((ob0 8), .inl (cA 0, (Md_trial (o46.2)).1, .inl (Md_trial (o46.2)).2)), ((ob0 9), .inl (cA 0, (Md_shown (o46.2)).1, .inl (Md_shown (o46.2)).2)), ((ob0 10), .inl (cA 0, (Md_features (o46.2)).1, .inl (Md_features (o46.2)).2)), ((ob0 11), .inl (cA 0, (Md_parts (o46.2)).1, .inl (Md_parts (o46.2)).2)), ((ob0 12), .inl (cA 0, (Md_pushedFeatures (o46.2)).1, .inl (Md_pushedFeatures (o46.2)).2)), ((ob0 13), .inl (cA 0, (Md_pushedParts (o46.2)).1, .inl (Md_pushedParts (o46.2)).2)), ((ob0 14), .inl (cA 0, (Md_touched (o46.2)).1, .inl (Md_touched (o46.2)).2)), ((ob0 15), .inl (cA 0, (Md_reached (o46.2)).1, .inl (Md_reached (o46.2)).2)), ((ob0 16), .inl (cA 0, (Md_blocks (o46.2)).1, .inl (Md_blocks (o46.2)).2)), ((ob0 17), .inl (cA 0, (Md_newBlocks (o46.2)).1, .inl (Md_newBlocks (o46.2)).2)), ((ob0 18), .inl (cA 0, (Md_places (o46.2)).1, .inl (Md_places (o46.2)).2)), ((ad50 0), .inl (cA 0, (Md_written (o46.2)).1, .inl (Md_written (o46.2)).2)), ((ad50 1), .inl (cA 0, (Md_other (o46.2)).1, .inl (Md_other (o46.2)).2))]) (lv' := [(0, .ref (ob0 0)), (1, .ref (ob0 8)), (2, .int p1), (3, .int p2), (4, .int v23), (5, .int v45), (6, .int (o46.1))]) rfl rfl ?_
      refine x_iload F d_Md_join_99 4 rfl ?_
      refine x_iload F d_Md_join_101 5 rfl ?_
      refine x_icmp_eq F 110 d_Md_join_103 (by decide) (fun c51 => ?_) (fun c51 => ?_)
      · replace hm := xm_t hm c51
        refine x_iconst (v := (0 : Int32)) F d_Md_join_110 (by decide) ?_
        replace hm := xm_p_some hm
        obtain ⟨eo, c_o, d_o⟩ := hm
        subst eo
        refine x_sub [0, 1, 2, 3, 4, 5, 6, 7, 8, 9, 10, 11, 12, 13, 14, 15, 16, 17, 18, 19, 20] (by decide) ?_ (xe_i E ad50 (by omega) (by omega) rfl xz_0 d_Md_join_111)
        rfl
      · replace hm := xm_f hm c51
        refine x_iconst (v := (1 : Int32)) F d_Md_join_106 (by decide) ?_
        refine x_goto F 111 d_Md_join_107 (by decide) ?_
        replace hm := xm_p_some hm
        obtain ⟨eo, c_o, d_o⟩ := hm
        subst eo
        refine x_sub [0, 1, 2, 3, 4, 5, 6, 7, 8, 9, 10, 11, 12, 13, 14, 15, 16, 17, 18, 19, 20] (by decide) ?_ (xe_i E ad50 (by omega) (by omega) rfl xz_1 d_Md_join_111)
        rfl
  · replace hm := xm_f hm c22
    refine x_aload_n F d_Md_join_9 1 rfl rfl ?_
    refine x_iload_n F d_Md_join_10 2 rfl rfl ?_
    replace hm := xm_rd_some hm
    obtain ⟨v52, e_v52, b_v52, hm⟩ := hm
    refine x_iald (x := (Md_trial s0)) F 8 rfl e_v52 b_v52 d_Md_join_11 ?_
    refine x_goto F 18 d_Md_join_12 (by decide) ?_
    refine x_istore (lv' := [(4, .int v52), (0, .ref (ob0 0)), (1, .ref (ob0 8)), (2, .int p1), (3, .int p2)]) F d_Md_join_18 (by decide) rfl ?_
    refine x_aload_n F d_Md_join_20 2 rfl rfl ?_
    refine x_iload_n F d_Md_join_21 3 rfl rfl ?_
    replace hm := xm_rd_some hm
    obtain ⟨v53, e_v53, b_v53, hm⟩ := hm
    refine x_iald (x := (Md_trial s0)) F 8 rfl e_v53 b_v53 d_Md_join_22 ?_
    refine x_aload_n F d_Md_join_23 2 rfl rfl ?_
    refine x_iload_n F d_Md_join_24 4 rfl rfl ?_
    replace hm := xm_rd_some hm
    obtain ⟨v54, e_v54, b_v54, hm⟩ := hm
    refine x_iald (x := (Md_trial s0)) F 8 rfl e_v54 b_v54 d_Md_join_25 ?_
    refine x_icmp_ge F 35 d_Md_join_26 (by decide) (fun c55 => ?_) (fun c55 => ?_)
    · replace hm := xm_t hm c55
      refine x_aload_n F d_Md_join_35 2 rfl rfl ?_
      refine x_iload_n F d_Md_join_36 3 rfl rfl ?_
      replace hm := xm_rd_some hm
      obtain ⟨v56, e_v56, b_v56, hm⟩ := hm
      refine x_iald (x := (Md_trial s0)) F 8 rfl e_v56 b_v56 d_Md_join_37 ?_
      refine x_istore (lv' := [(5, .int v56), (4, .int v52), (0, .ref (ob0 0)), (1, .ref (ob0 8)), (2, .int p1), (3, .int p2)]) F d_Md_join_38 (by decide) rfl ?_
      refine x_iload F d_Md_join_40 0 rfl ?_
      refine x_istore (lv' := [(6, .int v56), (5, .int v56), (4, .int v52), (0, .ref (ob0 0)), (1, .ref (ob0 8)), (2, .int p1), (3, .int p2)]) F d_Md_join_42 (by decide) rfl ?_
      replace hm := xm_b_some hm
      obtain ⟨o57, k58, k59, h60, hm, c_o57, d_o57⟩ := hm
      refine x_sub [0, 1, 2, 3, 4, 5, 6, 7, 8, 9, 10, 11, 12, 13, 14, 15, 16, 17, 18, 19, 20] (by decide) ?_ (x_lv [3, 4, 5, 6, 2, 1, 0] ?_ (wl_Md_join_44 F n ob0 p1 p2 v52 v56  n v56 s0 ad0 _ _ o57 k58 h60 (by omega) (by omega) (fun ad61 => ?_)))
      · rfl
      · rfl
      refine x_nf2 (ws' := [((ob0 0), .inr (8, [.ref (ob0 1), .ref (ob0 2), .ref (ob0 3), .ref (ob0 4), .ref (ob0 5), .ref (ob0 6), .ref (ob0 7), .ref (ob0 8), .ref (ob0 9), .int (Md_end (o57.2)), .int (Md_nodes (o57.2)), .ref (ob0 10), .ref (ob0 11), .int (Md_fields (o57.2)), .ref (ob0 12), .ref (ob0 13), .int (Md_pushed (o57.2)), .ref (ob0 14), .int (Md_touches (o57.2)), .ref (ob0 15), .ref (ob0 16), .ref (ob0 17), .ref (ob0 18), .ref (ad61 0), .ref (ad61 1), .int (Md_length (o57.2))])), ((ob0 1), .inl (cA 1, (Md_kinds (o57.2)).1, .inl (Md_kinds (o57.2)).2)), ((ob0 2), .inl (cA 0, (Md_values (o57.2)).1, .inl (Md_values (o57.2)).2)), ((ob0 3), .inl (cA 0, (Md_firsts (o57.2)).1, .inl (Md_firsts (o57.2)).2)), ((ob0 4), .inl (cA 0, (Md_manies (o57.2)).1, .inl (Md_manies (o57.2)).2)), ((ob0 5), .inl (cA 2, (Md_said (o57.2)).1, .inl (Md_said (o57.2)).2)), ((ob0 6), .inl (cA 2, (Md_marked (o57.2)).1, .inl (Md_marked (o57.2)).2)), ((ob0 7), .inl (cA 0, (Md_leaders (o57.2)).1, .inl (Md_leaders (o57.2)).2)), ((ob0 8), .inl (cA 0, (Md_trial (o57.2)).1, .inl (Md_trial (o57.2)).2)), ((ob0 9), .inl (cA 0, (Md_shown (o57.2)).1, .inl (Md_shown (o57.2)).2)), ((ob0 10), .inl (cA 0, (Md_features (o57.2)).1, .inl (Md_features (o57.2)).2)), ((ob0 11), .inl (cA 0, (Md_parts (o57.2)).1, .inl (Md_parts (o57.2)).2)), ((ob0 12), .inl (cA 0, (Md_pushedFeatures (o57.2)).1, .inl (Md_pushedFeatures (o57.2)).2)), ((ob0 13), .inl (cA 0, (Md_pushedParts (o57.2)).1, .inl (Md_pushedParts (o57.2)).2)), ((ob0 14), .inl (cA 0, (Md_touched (o57.2)).1, .inl (Md_touched (o57.2)).2)), ((ob0 15), .inl (cA 0, (Md_reached (o57.2)).1, .inl (Md_reached (o57.2)).2)), ((ob0 16), .inl (cA 0, (Md_blocks (o57.2)).1, .inl (Md_blocks (o57.2)).2)), ((ob0 17), .inl (cA 0, (Md_newBlocks (o57.2)).1, .inl (Md_newBlocks (o57.2)).2)), ((ob0 18), .inl (cA 0, (Md_places (o57.2)).1, .inl (Md_places (o57.2)).2)), ((ad61 0), .inl (cA 0, (Md_written (o57.2)).1, .inl (Md_written (o57.2)).2)), ((ad61 1), .inl (cA 0, (Md_other (o57.2)).1, .inl (Md_other (o57.2)).2))]) (lv' := [(0, .ref (ob0 0)), (1, .ref (ob0 8)), (2, .int p1), (3, .int p2), (4, .int v52), (5, .int v56), (6, .int (o57.1))]) rfl rfl ?_
      refine x_iload F d_Md_join_99 4 rfl ?_
      refine x_iload F d_Md_join_101 5 rfl ?_
      refine x_icmp_eq F 110 d_Md_join_103 (by decide) (fun c62 => ?_) (fun c62 => ?_)
      · replace hm := xm_t hm c62
        refine x_iconst (v := (0 : Int32)) F d_Md_join_110 (by decide) ?_
        replace hm := xm_p_some hm
        obtain ⟨eo, c_o, d_o⟩ := hm
        subst eo
        refine x_sub [0, 1, 2, 3, 4, 5, 6, 7, 8, 9, 10, 11, 12, 13, 14, 15, 16, 17, 18, 19, 20] (by decide) ?_ (xe_i E ad61 (by omega) (by omega) rfl xz_0 d_Md_join_111)
        rfl
      · replace hm := xm_f hm c62
        refine x_iconst (v := (1 : Int32)) F d_Md_join_106 (by decide) ?_
        refine x_goto F 111 d_Md_join_107 (by decide) ?_
        replace hm := xm_p_some hm
        obtain ⟨eo, c_o, d_o⟩ := hm
        subst eo
        refine x_sub [0, 1, 2, 3, 4, 5, 6, 7, 8, 9, 10, 11, 12, 13, 14, 15, 16, 17, 18, 19, 20] (by decide) ?_ (xe_i E ad61 (by omega) (by omega) rfl xz_1 d_Md_join_111)
        rfl
    · replace hm := xm_f hm c55
      refine x_aload_n F d_Md_join_29 2 rfl rfl ?_
      refine x_iload_n F d_Md_join_30 4 rfl rfl ?_
      replace hm := xm_rd_some hm
      obtain ⟨v63, e_v63, b_v63, hm⟩ := hm
      refine x_iald (x := (Md_trial s0)) F 8 rfl e_v63 b_v63 d_Md_join_31 ?_
      refine x_goto F 38 d_Md_join_32 (by decide) ?_
      refine x_istore (lv' := [(5, .int v63), (4, .int v52), (0, .ref (ob0 0)), (1, .ref (ob0 8)), (2, .int p1), (3, .int p2)]) F d_Md_join_38 (by decide) rfl ?_
      refine x_iload F d_Md_join_40 0 rfl ?_
      refine x_istore (lv' := [(6, .int v63), (5, .int v63), (4, .int v52), (0, .ref (ob0 0)), (1, .ref (ob0 8)), (2, .int p1), (3, .int p2)]) F d_Md_join_42 (by decide) rfl ?_
      replace hm := xm_b_some hm
      obtain ⟨o64, k65, k66, h67, hm, c_o64, d_o64⟩ := hm
      refine x_sub [0, 1, 2, 3, 4, 5, 6, 7, 8, 9, 10, 11, 12, 13, 14, 15, 16, 17, 18, 19, 20] (by decide) ?_ (x_lv [3, 4, 5, 6, 2, 1, 0] ?_ (wl_Md_join_44 F n ob0 p1 p2 v52 v63  n v63 s0 ad0 _ _ o64 k65 h67 (by omega) (by omega) (fun ad68 => ?_)))
      · rfl
      · rfl
      refine x_nf2 (ws' := [((ob0 0), .inr (8, [.ref (ob0 1), .ref (ob0 2), .ref (ob0 3), .ref (ob0 4), .ref (ob0 5), .ref (ob0 6), .ref (ob0 7), .ref (ob0 8), .ref (ob0 9), .int (Md_end (o64.2)), .int (Md_nodes (o64.2)), .ref (ob0 10), .ref (ob0 11), .int (Md_fields (o64.2)), .ref (ob0 12), .ref (ob0 13), .int (Md_pushed (o64.2)), .ref (ob0 14), .int (Md_touches (o64.2)), .ref (ob0 15), .ref (ob0 16), .ref (ob0 17), .ref (ob0 18), .ref (ad68 0), .ref (ad68 1), .int (Md_length (o64.2))])), ((ob0 1), .inl (cA 1, (Md_kinds (o64.2)).1, .inl (Md_kinds (o64.2)).2)), ((ob0 2), .inl (cA 0, (Md_values (o64.2)).1, .inl (Md_values (o64.2)).2)), ((ob0 3), .inl (cA 0, (Md_firsts (o64.2)).1, .inl (Md_firsts (o64.2)).2)), ((ob0 4), .inl (cA 0, (Md_manies (o64.2)).1, .inl (Md_manies (o64.2)).2)), ((ob0 5), .inl (cA 2, (Md_said (o64.2)).1, .inl (Md_said (o64.2)).2)), ((ob0 6), .inl (cA 2, (Md_marked (o64.2)).1, .inl (Md_marked (o64.2)).2)), ((ob0 7), .inl (cA 0, (Md_leaders (o64.2)).1, .inl (Md_leaders (o64.2)).2)), ((ob0 8), .inl (cA 0, (Md_trial (o64.2)).1, .inl (Md_trial (o64.2)).2)), ((ob0 9), .inl (cA 0, (Md_shown (o64.2)).1, .inl (Md_shown (o64.2)).2)), ((ob0 10), .inl (cA 0, (Md_features (o64.2)).1, .inl (Md_features (o64.2)).2)), ((ob0 11), .inl (cA 0, (Md_parts (o64.2)).1, .inl (Md_parts (o64.2)).2)), ((ob0 12), .inl (cA 0, (Md_pushedFeatures (o64.2)).1, .inl (Md_pushedFeatures (o64.2)).2)), ((ob0 13), .inl (cA 0, (Md_pushedParts (o64.2)).1, .inl (Md_pushedParts (o64.2)).2)), ((ob0 14), .inl (cA 0, (Md_touched (o64.2)).1, .inl (Md_touched (o64.2)).2)), ((ob0 15), .inl (cA 0, (Md_reached (o64.2)).1, .inl (Md_reached (o64.2)).2)), ((ob0 16), .inl (cA 0, (Md_blocks (o64.2)).1, .inl (Md_blocks (o64.2)).2)), ((ob0 17), .inl (cA 0, (Md_newBlocks (o64.2)).1, .inl (Md_newBlocks (o64.2)).2)), ((ob0 18), .inl (cA 0, (Md_places (o64.2)).1, .inl (Md_places (o64.2)).2)), ((ad68 0), .inl (cA 0, (Md_written (o64.2)).1, .inl (Md_written (o64.2)).2)), ((ad68 1), .inl (cA 0, (Md_other (o64.2)).1, .inl (Md_other (o64.2)).2))]) (lv' := [(0, .ref (ob0 0)), (1, .ref (ob0 8)), (2, .int p1), (3, .int p2), (4, .int v52), (5, .int v63), (6, .int (o64.1))]) rfl rfl ?_
      refine x_iload F d_Md_join_99 4 rfl ?_
      refine x_iload F d_Md_join_101 5 rfl ?_
      refine x_icmp_eq F 110 d_Md_join_103 (by decide) (fun c69 => ?_) (fun c69 => ?_)
      · replace hm := xm_t hm c69
        refine x_iconst (v := (0 : Int32)) F d_Md_join_110 (by decide) ?_
        replace hm := xm_p_some hm
        obtain ⟨eo, c_o, d_o⟩ := hm
        subst eo
        refine x_sub [0, 1, 2, 3, 4, 5, 6, 7, 8, 9, 10, 11, 12, 13, 14, 15, 16, 17, 18, 19, 20] (by decide) ?_ (xe_i E ad68 (by omega) (by omega) rfl xz_0 d_Md_join_111)
        rfl
      · replace hm := xm_f hm c69
        refine x_iconst (v := (1 : Int32)) F d_Md_join_106 (by decide) ?_
        refine x_goto F 111 d_Md_join_107 (by decide) ?_
        replace hm := xm_p_some hm
        obtain ⟨eo, c_o, d_o⟩ := hm
        subst eo
        refine x_sub [0, 1, 2, 3, 4, 5, 6, 7, 8, 9, 10, 11, 12, 13, 14, 15, 16, 17, 18, 19, 20] (by decide) ?_ (xe_i E ad68 (by omega) (by omega) rfl xz_1 d_Md_join_111)
        rfl
