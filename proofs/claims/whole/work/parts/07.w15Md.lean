noncomputable def m_Md_atom (n : Nat) (s0 : S_Md) (p0 : Int32) : MO (Int32 × S_Md) := (if p0 < 0 then (xm_p ((-1 : Int32), s0)) else (if p0 < (8192 : Int32) then (xm_b (m_Md_make n s0 (2 : Int32) p0) (fun o10 => (xm_p ((o10.1), (o10.2))))) else (xm_p ((-1 : Int32), s0))))
set_option maxHeartbeats 4000000 in
set_option maxRecDepth 100000 in
theorem c_Md_atom (l : Launch) (D : va_G) (cA : Nat → ClassId) (n : Nat) (ob0 ad0 : Nat → Nat) (s0 : S_Md) (p0 : Int32) (out : Int32 × S_Md) (k : KC) (hm : m_Md_atom n s0 p0 = some (out, k)) : XM l D cA y_Md_atom b_Md_atom 2 (some FieldType.int) 2 44 [.ref (ob0 0), .int p0] ((w_Md cA ob0 ad0  s0)) k (fun _ => some (.int (out.1))) (fun ad => (w_Md cA ob0 ad  (out.2))) := by
  refine x_met (cc := b_Md_atom) (nL := 2) (ret := (some FieldType.int)) R_Md (by decide) (Nat.le_of_ble_eq_true rfl) rfl (fun X F I E => ?_)
  unfold m_Md_atom at hm
  refine x_nf2 (ws' := [((ob0 0), .inr (8, [.ref (ob0 1), .ref (ob0 2), .ref (ob0 3), .ref (ob0 4), .ref (ob0 5), .ref (ob0 6), .ref (ob0 7), .ref (ob0 8), .ref (ob0 9), .int (Md_end s0), .int (Md_nodes s0), .ref (ob0 10), .ref (ob0 11), .int (Md_fields s0), .ref (ob0 12), .ref (ob0 13), .int (Md_pushed s0), .ref (ob0 14), .int (Md_touches s0), .ref (ob0 15), .ref (ob0 16), .ref (ob0 17), .ref (ob0 18), .ref (ad0 0), .ref (ad0 1), .int (Md_length s0)])), ((ob0 1), .inl (cA 1, (Md_kinds s0).1, .inl (Md_kinds s0).2)), ((ob0 2), .inl (cA 0, (Md_values s0).1, .inl (Md_values s0).2)), ((ob0 3), .inl (cA 0, (Md_firsts s0).1, .inl (Md_firsts s0).2)), ((ob0 4), .inl (cA 0, (Md_manies s0).1, .inl (Md_manies s0).2)), ((ob0 5), .inl (cA 2, (Md_said s0).1, .inl (Md_said s0).2)), ((ob0 6), .inl (cA 2, (Md_marked s0).1, .inl (Md_marked s0).2)), ((ob0 7), .inl (cA 0, (Md_leaders s0).1, .inl (Md_leaders s0).2)), ((ob0 8), .inl (cA 0, (Md_trial s0).1, .inl (Md_trial s0).2)), ((ob0 9), .inl (cA 0, (Md_shown s0).1, .inl (Md_shown s0).2)), ((ob0 10), .inl (cA 0, (Md_features s0).1, .inl (Md_features s0).2)), ((ob0 11), .inl (cA 0, (Md_parts s0).1, .inl (Md_parts s0).2)), ((ob0 12), .inl (cA 0, (Md_pushedFeatures s0).1, .inl (Md_pushedFeatures s0).2)), ((ob0 13), .inl (cA 0, (Md_pushedParts s0).1, .inl (Md_pushedParts s0).2)), ((ob0 14), .inl (cA 0, (Md_touched s0).1, .inl (Md_touched s0).2)), ((ob0 15), .inl (cA 0, (Md_reached s0).1, .inl (Md_reached s0).2)), ((ob0 16), .inl (cA 0, (Md_blocks s0).1, .inl (Md_blocks s0).2)), ((ob0 17), .inl (cA 0, (Md_newBlocks s0).1, .inl (Md_newBlocks s0).2)), ((ob0 18), .inl (cA 0, (Md_places s0).1, .inl (Md_places s0).2)), ((ad0 0), .inl (cA 0, (Md_written s0).1, .inl (Md_written s0).2)), ((ad0 1), .inl (cA 0, (Md_other s0).1, .inl (Md_other s0).2))]) (lv' := [(0, .ref (ob0 0)), (1, .int p0)]) rfl rfl ?_
  refine x_iload_n F d_Md_atom_0 1 rfl rfl ?_
  refine x_if_lt F 11 d_Md_atom_1 (by decide) (fun c8 => ?_) (fun c8 => ?_)
  · replace hm := xm_t hm c8
    refine x_iconst (v := (-1 : Int32)) F d_Md_atom_11 (by decide) ?_
    refine x_goto F 21 d_Md_atom_12 (by decide) ?_
    replace hm := xm_p_some hm
    obtain ⟨eo, c_o, d_o⟩ := hm
    subst eo
    refine x_sub [0, 1, 2, 3, 4, 5, 6, 7, 8, 9, 10, 11, 12, 13, 14, 15, 16, 17, 18, 19, 20] (by decide) ?_ (xe_i E ad0 (by omega) (by omega) rfl (xz_i _) d_Md_atom_21)
    rfl
  · replace hm := xm_f hm c8
    refine x_iload_n F d_Md_atom_4 1 rfl rfl ?_
    refine x_sipush (v := (8192 : Int32)) F d_Md_atom_5 (by decide) ?_
    refine x_icmp_lt F 15 d_Md_atom_8 (by decide) (fun c9 => ?_) (fun c9 => ?_)
    · replace hm := xm_t hm c9
      refine x_aload_n F d_Md_atom_15 0 rfl rfl ?_
      refine x_iconst (v := (2 : Int32)) F d_Md_atom_16 (by decide) ?_
      refine x_iload_n F d_Md_atom_17 1 rfl rfl ?_
      replace hm := xm_b_some hm
      obtain ⟨o10, k11, k12, h13, hm, c_o10, d_o10⟩ := hm
      refine x_callV (n := 2) (C := R_Md) (wr := []) F (c_Md_make l D cA n ob0 ad0 s0 (2 : Int32) p0 o10 k11 h13) kw_722 kw_719 kw_721 kw_18 kw_47 ⟨rfl, by decide, by decide, by decide +kernel⟩ rfl (by decide) (by decide) (ci := 8) rfl rfl 0 rfl [0, 1, 2, 3, 4, 5, 6, 7, 8, 9, 10, 11, 12, 13, 14, 15, 16, 17, 18, 19, 20] [] rfl rfl (by decide) (by decide) (by decide) rfl (Nat.le_of_ble_eq_true rfl) (by omega) (by omega) d_Md_atom_18 (fun ad14 => ?_)
      refine x_nf (ws' := [((ob0 0), .inr (8, [.ref (ob0 1), .ref (ob0 2), .ref (ob0 3), .ref (ob0 4), .ref (ob0 5), .ref (ob0 6), .ref (ob0 7), .ref (ob0 8), .ref (ob0 9), .int (Md_end (o10.2)), .int (Md_nodes (o10.2)), .ref (ob0 10), .ref (ob0 11), .int (Md_fields (o10.2)), .ref (ob0 12), .ref (ob0 13), .int (Md_pushed (o10.2)), .ref (ob0 14), .int (Md_touches (o10.2)), .ref (ob0 15), .ref (ob0 16), .ref (ob0 17), .ref (ob0 18), .ref (ad14 0), .ref (ad14 1), .int (Md_length (o10.2))])), ((ob0 1), .inl (cA 1, (Md_kinds (o10.2)).1, .inl (Md_kinds (o10.2)).2)), ((ob0 2), .inl (cA 0, (Md_values (o10.2)).1, .inl (Md_values (o10.2)).2)), ((ob0 3), .inl (cA 0, (Md_firsts (o10.2)).1, .inl (Md_firsts (o10.2)).2)), ((ob0 4), .inl (cA 0, (Md_manies (o10.2)).1, .inl (Md_manies (o10.2)).2)), ((ob0 5), .inl (cA 2, (Md_said (o10.2)).1, .inl (Md_said (o10.2)).2)), ((ob0 6), .inl (cA 2, (Md_marked (o10.2)).1, .inl (Md_marked (o10.2)).2)), ((ob0 7), .inl (cA 0, (Md_leaders (o10.2)).1, .inl (Md_leaders (o10.2)).2)), ((ob0 8), .inl (cA 0, (Md_trial (o10.2)).1, .inl (Md_trial (o10.2)).2)), ((ob0 9), .inl (cA 0, (Md_shown (o10.2)).1, .inl (Md_shown (o10.2)).2)), ((ob0 10), .inl (cA 0, (Md_features (o10.2)).1, .inl (Md_features (o10.2)).2)), ((ob0 11), .inl (cA 0, (Md_parts (o10.2)).1, .inl (Md_parts (o10.2)).2)), ((ob0 12), .inl (cA 0, (Md_pushedFeatures (o10.2)).1, .inl (Md_pushedFeatures (o10.2)).2)), ((ob0 13), .inl (cA 0, (Md_pushedParts (o10.2)).1, .inl (Md_pushedParts (o10.2)).2)), ((ob0 14), .inl (cA 0, (Md_touched (o10.2)).1, .inl (Md_touched (o10.2)).2)), ((ob0 15), .inl (cA 0, (Md_reached (o10.2)).1, .inl (Md_reached (o10.2)).2)), ((ob0 16), .inl (cA 0, (Md_blocks (o10.2)).1, .inl (Md_blocks (o10.2)).2)), ((ob0 17), .inl (cA 0, (Md_newBlocks (o10.2)).1, .inl (Md_newBlocks (o10.2)).2)), ((ob0 18), .inl (cA 0, (Md_places (o10.2)).1, .inl (Md_places (o10.2)).2)), ((ad14 0), .inl (cA 0, (Md_written (o10.2)).1, .inl (Md_written (o10.2)).2)), ((ad14 1), .inl (cA 0, (Md_other (o10.2)).1, .inl (Md_other (o10.2)).2))]) (st' := [.int (o10.1)]) rfl rfl ?_
      replace hm := xm_p_some hm
      obtain ⟨eo, c_o, d_o⟩ := hm
      subst eo
      refine x_sub [0, 1, 2, 3, 4, 5, 6, 7, 8, 9, 10, 11, 12, 13, 14, 15, 16, 17, 18, 19, 20] (by decide) ?_ (xe_i E ad14 (by omega) (by omega) rfl (xz_i _) d_Md_atom_21)
      rfl
    · replace hm := xm_f hm c9
      refine x_iconst (v := (-1 : Int32)) F d_Md_atom_11 (by decide) ?_
      refine x_goto F 21 d_Md_atom_12 (by decide) ?_
      replace hm := xm_p_some hm
      obtain ⟨eo, c_o, d_o⟩ := hm
      subst eo
      refine x_sub [0, 1, 2, 3, 4, 5, 6, 7, 8, 9, 10, 11, 12, 13, 14, 15, 16, 17, 18, 19, 20] (by decide) ?_ (xe_i E ad0 (by omega) (by omega) rfl (xz_i _) d_Md_atom_21)
      rfl

noncomputable def L_Md_push_35 (y1 : Int32) (y2 : Int32) (s0 : S_Md) (n i : Nat) : Int32 → Int32 → MO (Int32 × Int32) := Nat.rec (motive := fun _ => Int32 → Int32 → MO (Int32 × Int32)) (fun _ _ => none) (fun _ ih x3 x4 => (if (Md_pushed s0) ≤ x4 then (xm_p ((x3, x4))) else (if x3 = 0 then (xm_p ((x3, x4))) else (xm_rd (Md_pushedFeatures s0) x4 (fun v46 => (xm_b (if v46 = y1 then (xm_p (0 : Int32)) else (xm_p (1 : Int32))) (fun j47 => (ih j47 (x4 + 1))))))))) i
theorem L_Md_push_35_s (y1 : Int32) (y2 : Int32) (s0 : S_Md) (n i : Nat) (x3 : Int32) (x4 : Int32) : L_Md_push_35 y1 y2 s0 n (i + 1) x3 x4 = (if (Md_pushed s0) ≤ x4 then (xm_p ((x3, x4))) else (if x3 = 0 then (xm_p ((x3, x4))) else (xm_rd (Md_pushedFeatures s0) x4 (fun v46 => (xm_b (if v46 = y1 then (xm_p (0 : Int32)) else (xm_p (1 : Int32))) (fun j47 => (L_Md_push_35 y1 y2 s0 n i j47 (x4 + 1)))))))) := rfl
noncomputable def L_Md_push_96 (y1 : Int32) (y2 : Int32) (y3 : Int32) (n i : Nat) : Int32 → S_Md → MO (Int32 × S_Md) := Nat.rec (motive := fun _ => Int32 → S_Md → MO (Int32 × S_Md)) (fun _ _ => none) (fun _ ih x4 s0 => (if x4 ≤ 0 then (xm_p ((x4, s0))) else (xm_rd (Md_pushedFeatures s0) (x4 - (1 : Int32)) (fun v60 => (xm_b (m_Md_rank n  v60) (fun o61 => (xm_b (m_Md_rank n  y1) (fun o66 => (if o61 ≤ o66 then (xm_p ((x4, s0))) else (xm_rd (Md_pushedFeatures s0) (x4 - (1 : Int32)) (fun v72 => (xm_wr (Md_pushedFeatures s0) x4 v72 (fun a73 => (xm_rd (Md_pushedParts s0) (x4 - (1 : Int32)) (fun v74 => (xm_wr (Md_pushedParts s0) x4 v74 (fun a75 => (ih (x4 + -1) ((Md_kinds s0), (Md_values s0), (Md_firsts s0), (Md_manies s0), (Md_said s0), (Md_marked s0), (Md_leaders s0), (Md_trial s0), (Md_shown s0), (Md_end s0), (Md_nodes s0), (Md_features s0), (Md_parts s0), (Md_fields s0), a73, a75, (Md_pushed s0), (Md_touched s0), (Md_touches s0), (Md_reached s0), (Md_blocks s0), (Md_newBlocks s0), (Md_places s0), (Md_written s0), (Md_other s0), (Md_length s0)))))))))))))))))))) i
theorem L_Md_push_96_s (y1 : Int32) (y2 : Int32) (y3 : Int32) (n i : Nat) (x4 : Int32) (s0 : S_Md) : L_Md_push_96 y1 y2 y3 n (i + 1) x4 s0 = (if x4 ≤ 0 then (xm_p ((x4, s0))) else (xm_rd (Md_pushedFeatures s0) (x4 - (1 : Int32)) (fun v60 => (xm_b (m_Md_rank n  v60) (fun o61 => (xm_b (m_Md_rank n  y1) (fun o66 => (if o61 ≤ o66 then (xm_p ((x4, s0))) else (xm_rd (Md_pushedFeatures s0) (x4 - (1 : Int32)) (fun v72 => (xm_wr (Md_pushedFeatures s0) x4 v72 (fun a73 => (xm_rd (Md_pushedParts s0) (x4 - (1 : Int32)) (fun v74 => (xm_wr (Md_pushedParts s0) x4 v74 (fun a75 => (L_Md_push_96 y1 y2 y3 n i (x4 + -1) ((Md_kinds s0), (Md_values s0), (Md_firsts s0), (Md_manies s0), (Md_said s0), (Md_marked s0), (Md_leaders s0), (Md_trial s0), (Md_shown s0), (Md_end s0), (Md_nodes s0), (Md_features s0), (Md_parts s0), (Md_fields s0), a73, a75, (Md_pushed s0), (Md_touched s0), (Md_touches s0), (Md_reached s0), (Md_blocks s0), (Md_newBlocks s0), (Md_places s0), (Md_written s0), (Md_other s0), (Md_length s0))))))))))))))))))) := rfl
noncomputable def m_Md_push (n : Nat) (s0 : S_Md) (p0 : Int32) (p1 : Int32) : MO (Int32 × S_Md) := (xm_b (m_Md_has n s0 p1) (fun o35 => (xm_b (if o35 = 0 then (xm_p (0 : Int32)) else (if p0 = 0 then (xm_p (0 : Int32)) else (if (9999 : Int32) < p0 then (xm_p (0 : Int32)) else (if p0 < (-8192 : Int32) then (xm_p (0 : Int32)) else (xm_p (1 : Int32)))))) (fun j40 => (xm_b (L_Md_push_35 p0 p1 s0 n n j40 (0 : Int32)) (fun o52 => (if (o52.1) = 0 then (xm_p ((-1 : Int32), s0)) else (if (Md_pushed s0) = (255 : Int32) then (xm_p ((-2 : Int32), s0)) else (xm_b (L_Md_push_96 p0 p1 (o52.1) n n (Md_pushed s0) s0) (fun o76 => (xm_wr (Md_pushedFeatures (o76.2)) (o76.1) p0 (fun a81 => (xm_wr (Md_pushedParts (o76.2)) (o76.1) p1 (fun a82 => (xm_p (((Md_pushed (o76.2)) + (1 : Int32)), ((Md_kinds (o76.2)), (Md_values (o76.2)), (Md_firsts (o76.2)), (Md_manies (o76.2)), (Md_said (o76.2)), (Md_marked (o76.2)), (Md_leaders (o76.2)), (Md_trial (o76.2)), (Md_shown (o76.2)), (Md_end (o76.2)), (Md_nodes (o76.2)), (Md_features (o76.2)), (Md_parts (o76.2)), (Md_fields (o76.2)), a81, a82, ((Md_pushed (o76.2)) + (1 : Int32)), (Md_touched (o76.2)), (Md_touches (o76.2)), (Md_reached (o76.2)), (Md_blocks (o76.2)), (Md_newBlocks (o76.2)), (Md_places (o76.2)), (Md_written (o76.2)), (Md_other (o76.2)), (Md_length (o76.2)))))))))))))))))))
set_option maxHeartbeats 4000000 in
set_option maxRecDepth 100000 in
theorem wl_Md_push_35 {X : XT} {l : Launch} {D : va_G} {cA : Nat → ClassId} {mc ms : Nat} (F : XF X l D cA b_Md_push 5 (some FieldType.int) R_Md 1 21 mc ms) (n : Nat) (ob0 : Nat → Nat) (y1 : Int32) (y2 : Int32) (s0 : S_Md)  (ad0 : Nat → Nat) : ∀ (i : Nat) (x3 : Int32) (x4 : Int32)  (nc ns : Nat) (out : Int32 × Int32) (k : KC), L_Md_push_35 y1 y2 s0 n i x3 x4 = some (out, k) → nc + k.1 ≤ mc → ns + k.2 ≤ ms → (∀ ad : Nat → Nat, XW X 5 ((w_Md cA ob0 ad0  s0)) (nc + k.1) (ns + k.2) 71 [(0, .ref (ob0 0)), (1, .int y1), (2, .int y2), (3, .int (out.1)), (4, .int (out.2))] []) → XW X 5 ((w_Md cA ob0 ad0  s0)) nc ns 35 [(0, .ref (ob0 0)), (1, .int y1), (2, .int y2), (3, .int x3), (4, .int x4)] [] := by
  intro i
  induction i with
  | zero =>
    intro x3 x4  nc ns out k hm
    replace hm : (none : MO (Int32 × Int32)) = some (out, k) := hm
    cases hm
  | succ i ih =>
    intro x3 x4  nc ns out k hm hc hs KX
    rw [L_Md_push_35_s] at hm
    refine x_ws (ws' := [((ob0 0), .inr (8, [.ref (ob0 1), .ref (ob0 2), .ref (ob0 3), .ref (ob0 4), .ref (ob0 5), .ref (ob0 6), .ref (ob0 7), .ref (ob0 8), .ref (ob0 9), .int (Md_end s0), .int (Md_nodes s0), .ref (ob0 10), .ref (ob0 11), .int (Md_fields s0), .ref (ob0 12), .ref (ob0 13), .int (Md_pushed s0), .ref (ob0 14), .int (Md_touches s0), .ref (ob0 15), .ref (ob0 16), .ref (ob0 17), .ref (ob0 18), .ref (ad0 0), .ref (ad0 1), .int (Md_length s0)])), ((ob0 1), .inl (cA 1, (Md_kinds s0).1, .inl (Md_kinds s0).2)), ((ob0 2), .inl (cA 0, (Md_values s0).1, .inl (Md_values s0).2)), ((ob0 3), .inl (cA 0, (Md_firsts s0).1, .inl (Md_firsts s0).2)), ((ob0 4), .inl (cA 0, (Md_manies s0).1, .inl (Md_manies s0).2)), ((ob0 5), .inl (cA 2, (Md_said s0).1, .inl (Md_said s0).2)), ((ob0 6), .inl (cA 2, (Md_marked s0).1, .inl (Md_marked s0).2)), ((ob0 7), .inl (cA 0, (Md_leaders s0).1, .inl (Md_leaders s0).2)), ((ob0 8), .inl (cA 0, (Md_trial s0).1, .inl (Md_trial s0).2)), ((ob0 9), .inl (cA 0, (Md_shown s0).1, .inl (Md_shown s0).2)), ((ob0 10), .inl (cA 0, (Md_features s0).1, .inl (Md_features s0).2)), ((ob0 11), .inl (cA 0, (Md_parts s0).1, .inl (Md_parts s0).2)), ((ob0 12), .inl (cA 0, (Md_pushedFeatures s0).1, .inl (Md_pushedFeatures s0).2)), ((ob0 13), .inl (cA 0, (Md_pushedParts s0).1, .inl (Md_pushedParts s0).2)), ((ob0 14), .inl (cA 0, (Md_touched s0).1, .inl (Md_touched s0).2)), ((ob0 15), .inl (cA 0, (Md_reached s0).1, .inl (Md_reached s0).2)), ((ob0 16), .inl (cA 0, (Md_blocks s0).1, .inl (Md_blocks s0).2)), ((ob0 17), .inl (cA 0, (Md_newBlocks s0).1, .inl (Md_newBlocks s0).2)), ((ob0 18), .inl (cA 0, (Md_places s0).1, .inl (Md_places s0).2)), ((ad0 0), .inl (cA 0, (Md_written s0).1, .inl (Md_written s0).2)), ((ad0 1), .inl (cA 0, (Md_other s0).1, .inl (Md_other s0).2))]) rfl ?_
    refine x_iload F d_Md_push_35 4 rfl ?_
    refine x_aload_n F d_Md_push_37 0 rfl rfl ?_
    refine x_get F ck_Md hin_Md 0 16 rfl (by decide) kw_650 rfl rfl d_Md_push_38 ?_
    refine x_icmp_ge F 71 d_Md_push_41 (by decide) (fun c44 => ?_) (fun c44 => ?_)
    · replace hm := xm_t hm c44
      replace hm := xm_p_some hm
      obtain ⟨eo, c_o, d_o⟩ := hm
      subst eo
      refine x_sub [0, 1, 2, 3, 4, 5, 6, 7, 8, 9, 10, 11, 12, 13, 14, 15, 16, 17, 18, 19, 20] (by decide) ?_ (x_lv [0, 1, 2, 3, 4] ?_ (x_cs (by omega) (by omega) (KX (fun _ => 0))))
      · rfl
      · rfl
    · replace hm := xm_f hm c44
      refine x_iload_n F d_Md_push_44 3 rfl rfl ?_
      refine x_if_eq F 71 d_Md_push_45 (by decide) (fun c45 => ?_) (fun c45 => ?_)
      · replace hm := xm_t hm c45
        replace hm := xm_p_some hm
        obtain ⟨eo, c_o, d_o⟩ := hm
        subst eo
        refine x_sub [0, 1, 2, 3, 4, 5, 6, 7, 8, 9, 10, 11, 12, 13, 14, 15, 16, 17, 18, 19, 20] (by decide) ?_ (x_lv [0, 1, 2, 3, 4] ?_ (x_cs (by omega) (by omega) (KX (fun _ => 0))))
        · rfl
        · rfl
      · replace hm := xm_f hm c45
        refine x_aload_n F d_Md_push_48 0 rfl rfl ?_
        refine x_get F ck_Md hin_Md 0 14 rfl (by decide) kw_648 rfl rfl d_Md_push_49 ?_
        refine x_iload F d_Md_push_52 4 rfl ?_
        replace hm := xm_rd_some hm
        obtain ⟨v46, e_v46, b_v46, hm⟩ := hm
        refine x_iald (x := (Md_pushedFeatures s0)) F 12 rfl e_v46 b_v46 d_Md_push_54 ?_
        refine x_iload_n F d_Md_push_55 1 rfl rfl ?_
        replace hm := xm_b_some hm
        obtain ⟨j47, k48, k49, h50, hm, c_j47, d_j47⟩ := hm
        refine x_mrg (k1 := k48) (M := 64) (v := j47) (st := []) ?_ (fun J => ?_)
        · skip
          refine x_istore_n (lv' := [(3, .int j47), (0, .ref (ob0 0)), (1, .int y1), (2, .int y2), (4, .int x4)]) F d_Md_push_64 rfl (by decide) rfl ?_
          refine x_iinc (v := (x4 + 1)) (lv' := [(4, .int (x4 + 1)), (3, .int j47), (0, .ref (ob0 0)), (1, .int y1), (2, .int y2)]) F d_Md_push_65 4 rfl rfl (by decide) rfl ?_
          refine x_goto F 35 d_Md_push_68 (by decide) ?_
          refine x_sub [0, 1, 2, 3, 4, 5, 6, 7, 8, 9, 10, 11, 12, 13, 14, 15, 16, 17, 18, 19, 20] (by decide) ?_ (x_lv [2, 3, 4, 1, 0] ?_ (ih j47 (x4 + 1)  _ _ out k49 hm (by omega) (by omega) (fun ad => x_cs (by omega) (by omega) (KX ad))))
          · rfl
          · rfl
        · replace hm := h50
          refine x_icmp_eq F 63 d_Md_push_56 (by decide) (fun c51 => ?_) (fun c51 => ?_)
          · replace hm := xm_t hm c51
            refine x_iconst (v := (0 : Int32)) F d_Md_push_63 (by decide) ?_
            replace hm := xm_p_some hm
            obtain ⟨eo, c_o, d_o⟩ := hm
            subst eo
            exact x_cs (by omega) (by omega) J
          · replace hm := xm_f hm c51
            refine x_iconst (v := (1 : Int32)) F d_Md_push_59 (by decide) ?_
            refine x_goto F 64 d_Md_push_60 (by decide) ?_
            replace hm := xm_p_some hm
            obtain ⟨eo, c_o, d_o⟩ := hm
            subst eo
            exact x_cs (by omega) (by omega) J
set_option maxHeartbeats 4000000 in
set_option maxRecDepth 100000 in
theorem wl_Md_push_96 {X : XT} {l : Launch} {D : va_G} {cA : Nat → ClassId} {mc ms : Nat} (F : XF X l D cA b_Md_push 5 (some FieldType.int) R_Md 1 21 mc ms) (n : Nat) (ob0 : Nat → Nat) (y1 : Int32) (y2 : Int32) (y3 : Int32)   : ∀ (i : Nat) (x4 : Int32) (s0 : S_Md) (ad0 : Nat → Nat) (nc ns : Nat) (out : Int32 × S_Md) (k : KC), L_Md_push_96 y1 y2 y3 n i x4 s0 = some (out, k) → nc + k.1 ≤ mc → ns + k.2 ≤ ms → (∀ ad : Nat → Nat, XW X 5 ((w_Md cA ob0 ad  (out.2))) (nc + k.1) (ns + k.2) 158 [(0, .ref (ob0 0)), (1, .int y1), (2, .int y2), (3, .int y3), (4, .int (out.1))] []) → XW X 5 ((w_Md cA ob0 ad0  s0)) nc ns 96 [(0, .ref (ob0 0)), (1, .int y1), (2, .int y2), (3, .int y3), (4, .int x4)] [] := by
  intro i
  induction i with
  | zero =>
    intro x4 s0 ad0 nc ns out k hm
    replace hm : (none : MO (Int32 × S_Md)) = some (out, k) := hm
    cases hm
  | succ i ih =>
    intro x4 s0 ad0 nc ns out k hm hc hs KX
    rw [L_Md_push_96_s] at hm
    refine x_ws (ws' := [((ob0 0), .inr (8, [.ref (ob0 1), .ref (ob0 2), .ref (ob0 3), .ref (ob0 4), .ref (ob0 5), .ref (ob0 6), .ref (ob0 7), .ref (ob0 8), .ref (ob0 9), .int (Md_end s0), .int (Md_nodes s0), .ref (ob0 10), .ref (ob0 11), .int (Md_fields s0), .ref (ob0 12), .ref (ob0 13), .int (Md_pushed s0), .ref (ob0 14), .int (Md_touches s0), .ref (ob0 15), .ref (ob0 16), .ref (ob0 17), .ref (ob0 18), .ref (ad0 0), .ref (ad0 1), .int (Md_length s0)])), ((ob0 1), .inl (cA 1, (Md_kinds s0).1, .inl (Md_kinds s0).2)), ((ob0 2), .inl (cA 0, (Md_values s0).1, .inl (Md_values s0).2)), ((ob0 3), .inl (cA 0, (Md_firsts s0).1, .inl (Md_firsts s0).2)), ((ob0 4), .inl (cA 0, (Md_manies s0).1, .inl (Md_manies s0).2)), ((ob0 5), .inl (cA 2, (Md_said s0).1, .inl (Md_said s0).2)), ((ob0 6), .inl (cA 2, (Md_marked s0).1, .inl (Md_marked s0).2)), ((ob0 7), .inl (cA 0, (Md_leaders s0).1, .inl (Md_leaders s0).2)), ((ob0 8), .inl (cA 0, (Md_trial s0).1, .inl (Md_trial s0).2)), ((ob0 9), .inl (cA 0, (Md_shown s0).1, .inl (Md_shown s0).2)), ((ob0 10), .inl (cA 0, (Md_features s0).1, .inl (Md_features s0).2)), ((ob0 11), .inl (cA 0, (Md_parts s0).1, .inl (Md_parts s0).2)), ((ob0 12), .inl (cA 0, (Md_pushedFeatures s0).1, .inl (Md_pushedFeatures s0).2)), ((ob0 13), .inl (cA 0, (Md_pushedParts s0).1, .inl (Md_pushedParts s0).2)), ((ob0 14), .inl (cA 0, (Md_touched s0).1, .inl (Md_touched s0).2)), ((ob0 15), .inl (cA 0, (Md_reached s0).1, .inl (Md_reached s0).2)), ((ob0 16), .inl (cA 0, (Md_blocks s0).1, .inl (Md_blocks s0).2)), ((ob0 17), .inl (cA 0, (Md_newBlocks s0).1, .inl (Md_newBlocks s0).2)), ((ob0 18), .inl (cA 0, (Md_places s0).1, .inl (Md_places s0).2)), ((ad0 0), .inl (cA 0, (Md_written s0).1, .inl (Md_written s0).2)), ((ad0 1), .inl (cA 0, (Md_other s0).1, .inl (Md_other s0).2))]) rfl ?_
    refine x_iload F d_Md_push_96 4 rfl ?_
    refine x_if_le F 158 d_Md_push_98 (by decide) (fun c59 => ?_) (fun c59 => ?_)
    · replace hm := xm_t hm c59
      replace hm := xm_p_some hm
      obtain ⟨eo, c_o, d_o⟩ := hm
      subst eo
      refine x_sub [0, 1, 2, 3, 4, 5, 6, 7, 8, 9, 10, 11, 12, 13, 14, 15, 16, 17, 18, 19, 20] (by decide) ?_ (x_lv [0, 1, 2, 3, 4] ?_ (x_cs (by omega) (by omega) (KX ad0)))
      · rfl
      · rfl
    · replace hm := xm_f hm c59
      refine x_aload_n F d_Md_push_101 0 rfl rfl ?_
      refine x_get F ck_Md hin_Md 0 14 rfl (by decide) kw_648 rfl rfl d_Md_push_102 ?_
      refine x_iload F d_Md_push_105 4 rfl ?_
      refine x_iconst (v := (1 : Int32)) F d_Md_push_107 (by decide) ?_
      refine x_isub F d_Md_push_108 ?_
      replace hm := xm_rd_some hm
      obtain ⟨v60, e_v60, b_v60, hm⟩ := hm
      refine x_iald (x := (Md_pushedFeatures s0)) F 12 rfl e_v60 b_v60 d_Md_push_109 ?_
      replace hm := xm_b_some hm
      obtain ⟨o61, k62, k63, h64, hm, c_o61, d_o61⟩ := hm
      refine x_callS (n := 1) (wr := [((ob0 0), .inr (8, [.ref (ob0 1), .ref (ob0 2), .ref (ob0 3), .ref (ob0 4), .ref (ob0 5), .ref (ob0 6), .ref (ob0 7), .ref (ob0 8), .ref (ob0 9), .int (Md_end s0), .int (Md_nodes s0), .ref (ob0 10), .ref (ob0 11), .int (Md_fields s0), .ref (ob0 12), .ref (ob0 13), .int (Md_pushed s0), .ref (ob0 14), .int (Md_touches s0), .ref (ob0 15), .ref (ob0 16), .ref (ob0 17), .ref (ob0 18), .ref (ad0 0), .ref (ad0 1), .int (Md_length s0)])), ((ob0 1), .inl (cA 1, (Md_kinds s0).1, .inl (Md_kinds s0).2)), ((ob0 2), .inl (cA 0, (Md_values s0).1, .inl (Md_values s0).2)), ((ob0 3), .inl (cA 0, (Md_firsts s0).1, .inl (Md_firsts s0).2)), ((ob0 4), .inl (cA 0, (Md_manies s0).1, .inl (Md_manies s0).2)), ((ob0 5), .inl (cA 2, (Md_said s0).1, .inl (Md_said s0).2)), ((ob0 6), .inl (cA 2, (Md_marked s0).1, .inl (Md_marked s0).2)), ((ob0 7), .inl (cA 0, (Md_leaders s0).1, .inl (Md_leaders s0).2)), ((ob0 8), .inl (cA 0, (Md_trial s0).1, .inl (Md_trial s0).2)), ((ob0 9), .inl (cA 0, (Md_shown s0).1, .inl (Md_shown s0).2)), ((ob0 10), .inl (cA 0, (Md_features s0).1, .inl (Md_features s0).2)), ((ob0 11), .inl (cA 0, (Md_parts s0).1, .inl (Md_parts s0).2)), ((ob0 12), .inl (cA 0, (Md_pushedFeatures s0).1, .inl (Md_pushedFeatures s0).2)), ((ob0 13), .inl (cA 0, (Md_pushedParts s0).1, .inl (Md_pushedParts s0).2)), ((ob0 14), .inl (cA 0, (Md_touched s0).1, .inl (Md_touched s0).2)), ((ob0 15), .inl (cA 0, (Md_reached s0).1, .inl (Md_reached s0).2)), ((ob0 16), .inl (cA 0, (Md_blocks s0).1, .inl (Md_blocks s0).2)), ((ob0 17), .inl (cA 0, (Md_newBlocks s0).1, .inl (Md_newBlocks s0).2)), ((ob0 18), .inl (cA 0, (Md_places s0).1, .inl (Md_places s0).2)), ((ad0 0), .inl (cA 0, (Md_written s0).1, .inl (Md_written s0).2)), ((ad0 1), .inl (cA 0, (Md_other s0).1, .inl (Md_other s0).2))]) F (c_Md_rank l D cA n  v60 o61 k62 h64) kw_745 kw_743 kw_744 kw_47 ⟨rfl, by decide, by decide, by decide +kernel⟩ rfl (by decide) (by decide) [] [0, 1, 2, 3, 4, 5, 6, 7, 8, 9, 10, 11, 12, 13, 14, 15, 16, 17, 18, 19, 20] rfl rfl (by decide) (by decide) (by decide) rfl (Nat.le_of_ble_eq_true rfl) (by omega) (by omega) d_Md_push_110 (fun ad65 => ?_)
      refine x_nf (ws' := [((ob0 0), .inr (8, [.ref (ob0 1), .ref (ob0 2), .ref (ob0 3), .ref (ob0 4), .ref (ob0 5), .ref (ob0 6), .ref (ob0 7), .ref (ob0 8), .ref (ob0 9), .int (Md_end s0), .int (Md_nodes s0), .ref (ob0 10), .ref (ob0 11), .int (Md_fields s0), .ref (ob0 12), .ref (ob0 13), .int (Md_pushed s0), .ref (ob0 14), .int (Md_touches s0), .ref (ob0 15), .ref (ob0 16), .ref (ob0 17), .ref (ob0 18), .ref (ad0 0), .ref (ad0 1), .int (Md_length s0)])), ((ob0 1), .inl (cA 1, (Md_kinds s0).1, .inl (Md_kinds s0).2)), ((ob0 2), .inl (cA 0, (Md_values s0).1, .inl (Md_values s0).2)), ((ob0 3), .inl (cA 0, (Md_firsts s0).1, .inl (Md_firsts s0).2)), ((ob0 4), .inl (cA 0, (Md_manies s0).1, .inl (Md_manies s0).2)), ((ob0 5), .inl (cA 2, (Md_said s0).1, .inl (Md_said s0).2)), ((ob0 6), .inl (cA 2, (Md_marked s0).1, .inl (Md_marked s0).2)), ((ob0 7), .inl (cA 0, (Md_leaders s0).1, .inl (Md_leaders s0).2)), ((ob0 8), .inl (cA 0, (Md_trial s0).1, .inl (Md_trial s0).2)), ((ob0 9), .inl (cA 0, (Md_shown s0).1, .inl (Md_shown s0).2)), ((ob0 10), .inl (cA 0, (Md_features s0).1, .inl (Md_features s0).2)), ((ob0 11), .inl (cA 0, (Md_parts s0).1, .inl (Md_parts s0).2)), ((ob0 12), .inl (cA 0, (Md_pushedFeatures s0).1, .inl (Md_pushedFeatures s0).2)), ((ob0 13), .inl (cA 0, (Md_pushedParts s0).1, .inl (Md_pushedParts s0).2)), ((ob0 14), .inl (cA 0, (Md_touched s0).1, .inl (Md_touched s0).2)), ((ob0 15), .inl (cA 0, (Md_reached s0).1, .inl (Md_reached s0).2)), ((ob0 16), .inl (cA 0, (Md_blocks s0).1, .inl (Md_blocks s0).2)), ((ob0 17), .inl (cA 0, (Md_newBlocks s0).1, .inl (Md_newBlocks s0).2)), ((ob0 18), .inl (cA 0, (Md_places s0).1, .inl (Md_places s0).2)), ((ad0 0), .inl (cA 0, (Md_written s0).1, .inl (Md_written s0).2)), ((ad0 1), .inl (cA 0, (Md_other s0).1, .inl (Md_other s0).2))]) (st' := [.int o61]) rfl rfl ?_
      refine x_iload_n F d_Md_push_113 1 rfl rfl ?_
      replace hm := xm_b_some hm
      obtain ⟨o66, k67, k68, h69, hm, c_o66, d_o66⟩ := hm
      refine x_callS (n := 1) (wr := [((ob0 0), .inr (8, [.ref (ob0 1), .ref (ob0 2), .ref (ob0 3), .ref (ob0 4), .ref (ob0 5), .ref (ob0 6), .ref (ob0 7), .ref (ob0 8), .ref (ob0 9), .int (Md_end s0), .int (Md_nodes s0), .ref (ob0 10), .ref (ob0 11), .int (Md_fields s0), .ref (ob0 12), .ref (ob0 13), .int (Md_pushed s0), .ref (ob0 14), .int (Md_touches s0), .ref (ob0 15), .ref (ob0 16), .ref (ob0 17), .ref (ob0 18), .ref (ad0 0), .ref (ad0 1), .int (Md_length s0)])), ((ob0 1), .inl (cA 1, (Md_kinds s0).1, .inl (Md_kinds s0).2)), ((ob0 2), .inl (cA 0, (Md_values s0).1, .inl (Md_values s0).2)), ((ob0 3), .inl (cA 0, (Md_firsts s0).1, .inl (Md_firsts s0).2)), ((ob0 4), .inl (cA 0, (Md_manies s0).1, .inl (Md_manies s0).2)), ((ob0 5), .inl (cA 2, (Md_said s0).1, .inl (Md_said s0).2)), ((ob0 6), .inl (cA 2, (Md_marked s0).1, .inl (Md_marked s0).2)), ((ob0 7), .inl (cA 0, (Md_leaders s0).1, .inl (Md_leaders s0).2)), ((ob0 8), .inl (cA 0, (Md_trial s0).1, .inl (Md_trial s0).2)), ((ob0 9), .inl (cA 0, (Md_shown s0).1, .inl (Md_shown s0).2)), ((ob0 10), .inl (cA 0, (Md_features s0).1, .inl (Md_features s0).2)), ((ob0 11), .inl (cA 0, (Md_parts s0).1, .inl (Md_parts s0).2)), ((ob0 12), .inl (cA 0, (Md_pushedFeatures s0).1, .inl (Md_pushedFeatures s0).2)), ((ob0 13), .inl (cA 0, (Md_pushedParts s0).1, .inl (Md_pushedParts s0).2)), ((ob0 14), .inl (cA 0, (Md_touched s0).1, .inl (Md_touched s0).2)), ((ob0 15), .inl (cA 0, (Md_reached s0).1, .inl (Md_reached s0).2)), ((ob0 16), .inl (cA 0, (Md_blocks s0).1, .inl (Md_blocks s0).2)), ((ob0 17), .inl (cA 0, (Md_newBlocks s0).1, .inl (Md_newBlocks s0).2)), ((ob0 18), .inl (cA 0, (Md_places s0).1, .inl (Md_places s0).2)), ((ad0 0), .inl (cA 0, (Md_written s0).1, .inl (Md_written s0).2)), ((ad0 1), .inl (cA 0, (Md_other s0).1, .inl (Md_other s0).2))]) F (c_Md_rank l D cA n  y1 o66 k67 h69) kw_745 kw_743 kw_744 kw_47 ⟨rfl, by decide, by decide, by decide +kernel⟩ rfl (by decide) (by decide) [] [0, 1, 2, 3, 4, 5, 6, 7, 8, 9, 10, 11, 12, 13, 14, 15, 16, 17, 18, 19, 20] rfl rfl (by decide) (by decide) (by decide) rfl (Nat.le_of_ble_eq_true rfl) (by omega) (by omega) d_Md_push_114 (fun ad70 => ?_)
      refine x_nf (ws' := [((ob0 0), .inr (8, [.ref (ob0 1), .ref (ob0 2), .ref (ob0 3), .ref (ob0 4), .ref (ob0 5), .ref (ob0 6), .ref (ob0 7), .ref (ob0 8), .ref (ob0 9), .int (Md_end s0), .int (Md_nodes s0), .ref (ob0 10), .ref (ob0 11), .int (Md_fields s0), .ref (ob0 12), .ref (ob0 13), .int (Md_pushed s0), .ref (ob0 14), .int (Md_touches s0), .ref (ob0 15), .ref (ob0 16), .ref (ob0 17), .ref (ob0 18), .ref (ad0 0), .ref (ad0 1), .int (Md_length s0)])), ((ob0 1), .inl (cA 1, (Md_kinds s0).1, .inl (Md_kinds s0).2)), ((ob0 2), .inl (cA 0, (Md_values s0).1, .inl (Md_values s0).2)), ((ob0 3), .inl (cA 0, (Md_firsts s0).1, .inl (Md_firsts s0).2)), ((ob0 4), .inl (cA 0, (Md_manies s0).1, .inl (Md_manies s0).2)), ((ob0 5), .inl (cA 2, (Md_said s0).1, .inl (Md_said s0).2)), ((ob0 6), .inl (cA 2, (Md_marked s0).1, .inl (Md_marked s0).2)), ((ob0 7), .inl (cA 0, (Md_leaders s0).1, .inl (Md_leaders s0).2)), ((ob0 8), .inl (cA 0, (Md_trial s0).1, .inl (Md_trial s0).2)), ((ob0 9), .inl (cA 0, (Md_shown s0).1, .inl (Md_shown s0).2)), ((ob0 10), .inl (cA 0, (Md_features s0).1, .inl (Md_features s0).2)), ((ob0 11), .inl (cA 0, (Md_parts s0).1, .inl (Md_parts s0).2)), ((ob0 12), .inl (cA 0, (Md_pushedFeatures s0).1, .inl (Md_pushedFeatures s0).2)), ((ob0 13), .inl (cA 0, (Md_pushedParts s0).1, .inl (Md_pushedParts s0).2)), ((ob0 14), .inl (cA 0, (Md_touched s0).1, .inl (Md_touched s0).2)), ((ob0 15), .inl (cA 0, (Md_reached s0).1, .inl (Md_reached s0).2)), ((ob0 16), .inl (cA 0, (Md_blocks s0).1, .inl (Md_blocks s0).2)), ((ob0 17), .inl (cA 0, (Md_newBlocks s0).1, .inl (Md_newBlocks s0).2)), ((ob0 18), .inl (cA 0, (Md_places s0).1, .inl (Md_places s0).2)), ((ad0 0), .inl (cA 0, (Md_written s0).1, .inl (Md_written s0).2)), ((ad0 1), .inl (cA 0, (Md_other s0).1, .inl (Md_other s0).2))]) (st' := [.int o66, .int o61]) rfl rfl ?_
      refine x_icmp_le F 158 d_Md_push_117 (by decide) (fun c71 => ?_) (fun c71 => ?_)
      · replace hm := xm_t hm c71
        replace hm := xm_p_some hm
        obtain ⟨eo, c_o, d_o⟩ := hm
        subst eo
        refine x_sub [0, 1, 2, 3, 4, 5, 6, 7, 8, 9, 10, 11, 12, 13, 14, 15, 16, 17, 18, 19, 20] (by decide) ?_ (x_lv [0, 1, 2, 3, 4] ?_ (x_cs (by omega) (by omega) (KX ad0)))
        · rfl
        · rfl
      · replace hm := xm_f hm c71
        refine x_aload_n F d_Md_push_120 0 rfl rfl ?_
        refine x_get F ck_Md hin_Md 0 14 rfl (by decide) kw_648 rfl rfl d_Md_push_121 ?_
        refine x_iload F d_Md_push_124 4 rfl ?_
        refine x_aload_n F d_Md_push_126 0 rfl rfl ?_
        refine x_get F ck_Md hin_Md 0 14 rfl (by decide) kw_648 rfl rfl d_Md_push_127 ?_
        refine x_iload F d_Md_push_130 4 rfl ?_
        refine x_iconst (v := (1 : Int32)) F d_Md_push_132 (by decide) ?_
        refine x_isub F d_Md_push_133 ?_
        replace hm := xm_rd_some hm
        obtain ⟨v72, e_v72, b_v72, hm⟩ := hm
        refine x_iald (x := (Md_pushedFeatures s0)) F 12 rfl e_v72 b_v72 d_Md_push_134 ?_
        replace hm := xm_wr_some hm
        obtain ⟨a73, e_a73, b_a73, hm⟩ := hm
        refine x_iast (x := (Md_pushedFeatures s0)) (x' := a73) (ws' := [((ob0 0), .inr (8, [.ref (ob0 1), .ref (ob0 2), .ref (ob0 3), .ref (ob0 4), .ref (ob0 5), .ref (ob0 6), .ref (ob0 7), .ref (ob0 8), .ref (ob0 9), .int (Md_end s0), .int (Md_nodes s0), .ref (ob0 10), .ref (ob0 11), .int (Md_fields s0), .ref (ob0 12), .ref (ob0 13), .int (Md_pushed s0), .ref (ob0 14), .int (Md_touches s0), .ref (ob0 15), .ref (ob0 16), .ref (ob0 17), .ref (ob0 18), .ref (ad0 0), .ref (ad0 1), .int (Md_length s0)])), ((ob0 1), .inl (cA 1, (Md_kinds s0).1, .inl (Md_kinds s0).2)), ((ob0 2), .inl (cA 0, (Md_values s0).1, .inl (Md_values s0).2)), ((ob0 3), .inl (cA 0, (Md_firsts s0).1, .inl (Md_firsts s0).2)), ((ob0 4), .inl (cA 0, (Md_manies s0).1, .inl (Md_manies s0).2)), ((ob0 5), .inl (cA 2, (Md_said s0).1, .inl (Md_said s0).2)), ((ob0 6), .inl (cA 2, (Md_marked s0).1, .inl (Md_marked s0).2)), ((ob0 7), .inl (cA 0, (Md_leaders s0).1, .inl (Md_leaders s0).2)), ((ob0 8), .inl (cA 0, (Md_trial s0).1, .inl (Md_trial s0).2)), ((ob0 9), .inl (cA 0, (Md_shown s0).1, .inl (Md_shown s0).2)), ((ob0 10), .inl (cA 0, (Md_features s0).1, .inl (Md_features s0).2)), ((ob0 11), .inl (cA 0, (Md_parts s0).1, .inl (Md_parts s0).2)), ((ob0 12), .inl (cA 0, a73.1, .inl a73.2)), ((ob0 13), .inl (cA 0, (Md_pushedParts s0).1, .inl (Md_pushedParts s0).2)), ((ob0 14), .inl (cA 0, (Md_touched s0).1, .inl (Md_touched s0).2)), ((ob0 15), .inl (cA 0, (Md_reached s0).1, .inl (Md_reached s0).2)), ((ob0 16), .inl (cA 0, (Md_blocks s0).1, .inl (Md_blocks s0).2)), ((ob0 17), .inl (cA 0, (Md_newBlocks s0).1, .inl (Md_newBlocks s0).2)), ((ob0 18), .inl (cA 0, (Md_places s0).1, .inl (Md_places s0).2)), ((ad0 0), .inl (cA 0, (Md_written s0).1, .inl (Md_written s0).2)), ((ad0 1), .inl (cA 0, (Md_other s0).1, .inl (Md_other s0).2))]) F 12 rfl e_a73 b_a73 rfl d_Md_push_135 ?_
        refine x_aload_n F d_Md_push_136 0 rfl rfl ?_
        refine x_get F ck_Md hin_Md 0 15 rfl (by decide) kw_649 rfl rfl d_Md_push_137 ?_
        refine x_iload F d_Md_push_140 4 rfl ?_
        refine x_aload_n F d_Md_push_142 0 rfl rfl ?_
        refine x_get F ck_Md hin_Md 0 15 rfl (by decide) kw_649 rfl rfl d_Md_push_143 ?_
        refine x_iload F d_Md_push_146 4 rfl ?_
        refine x_iconst (v := (1 : Int32)) F d_Md_push_148 (by decide) ?_
        refine x_isub F d_Md_push_149 ?_
        replace hm := xm_rd_some hm
        obtain ⟨v74, e_v74, b_v74, hm⟩ := hm
        refine x_iald (x := (Md_pushedParts s0)) F 13 rfl e_v74 b_v74 d_Md_push_150 ?_
        replace hm := xm_wr_some hm
        obtain ⟨a75, e_a75, b_a75, hm⟩ := hm
        refine x_iast (x := (Md_pushedParts s0)) (x' := a75) (ws' := [((ob0 0), .inr (8, [.ref (ob0 1), .ref (ob0 2), .ref (ob0 3), .ref (ob0 4), .ref (ob0 5), .ref (ob0 6), .ref (ob0 7), .ref (ob0 8), .ref (ob0 9), .int (Md_end s0), .int (Md_nodes s0), .ref (ob0 10), .ref (ob0 11), .int (Md_fields s0), .ref (ob0 12), .ref (ob0 13), .int (Md_pushed s0), .ref (ob0 14), .int (Md_touches s0), .ref (ob0 15), .ref (ob0 16), .ref (ob0 17), .ref (ob0 18), .ref (ad0 0), .ref (ad0 1), .int (Md_length s0)])), ((ob0 1), .inl (cA 1, (Md_kinds s0).1, .inl (Md_kinds s0).2)), ((ob0 2), .inl (cA 0, (Md_values s0).1, .inl (Md_values s0).2)), ((ob0 3), .inl (cA 0, (Md_firsts s0).1, .inl (Md_firsts s0).2)), ((ob0 4), .inl (cA 0, (Md_manies s0).1, .inl (Md_manies s0).2)), ((ob0 5), .inl (cA 2, (Md_said s0).1, .inl (Md_said s0).2)), ((ob0 6), .inl (cA 2, (Md_marked s0).1, .inl (Md_marked s0).2)), ((ob0 7), .inl (cA 0, (Md_leaders s0).1, .inl (Md_leaders s0).2)), ((ob0 8), .inl (cA 0, (Md_trial s0).1, .inl (Md_trial s0).2)), ((ob0 9), .inl (cA 0, (Md_shown s0).1, .inl (Md_shown s0).2)), ((ob0 10), .inl (cA 0, (Md_features s0).1, .inl (Md_features s0).2)), ((ob0 11), .inl (cA 0, (Md_parts s0).1, .inl (Md_parts s0).2)), ((ob0 12), .inl (cA 0, a73.1, .inl a73.2)), ((ob0 13), .inl (cA 0, a75.1, .inl a75.2)), ((ob0 14), .inl (cA 0, (Md_touched s0).1, .inl (Md_touched s0).2)), ((ob0 15), .inl (cA 0, (Md_reached s0).1, .inl (Md_reached s0).2)), ((ob0 16), .inl (cA 0, (Md_blocks s0).1, .inl (Md_blocks s0).2)), ((ob0 17), .inl (cA 0, (Md_newBlocks s0).1, .inl (Md_newBlocks s0).2)), ((ob0 18), .inl (cA 0, (Md_places s0).1, .inl (Md_places s0).2)), ((ad0 0), .inl (cA 0, (Md_written s0).1, .inl (Md_written s0).2)), ((ad0 1), .inl (cA 0, (Md_other s0).1, .inl (Md_other s0).2))]) F 13 rfl e_a75 b_a75 rfl d_Md_push_151 ?_
        refine x_iinc (v := (x4 + -1)) (lv' := [(4, .int (x4 + -1)), (0, .ref (ob0 0)), (1, .int y1), (2, .int y2), (3, .int y3)]) F d_Md_push_152 4 rfl rfl (by decide) rfl ?_
        refine x_goto F 96 d_Md_push_155 (by decide) ?_
        refine x_sub [0, 1, 2, 3, 4, 5, 6, 7, 8, 9, 10, 11, 12, 13, 14, 15, 16, 17, 18, 19, 20] (by decide) ?_ (x_lv [1, 2, 3, 4, 0] ?_ (ih (x4 + -1) ((Md_kinds s0), (Md_values s0), (Md_firsts s0), (Md_manies s0), (Md_said s0), (Md_marked s0), (Md_leaders s0), (Md_trial s0), (Md_shown s0), (Md_end s0), (Md_nodes s0), (Md_features s0), (Md_parts s0), (Md_fields s0), a73, a75, (Md_pushed s0), (Md_touched s0), (Md_touches s0), (Md_reached s0), (Md_blocks s0), (Md_newBlocks s0), (Md_places s0), (Md_written s0), (Md_other s0), (Md_length s0)) ad0 _ _ out k68 hm (by omega) (by omega) (fun ad => x_cs (by omega) (by omega) (KX ad))))
        · rfl
        · rfl
set_option maxHeartbeats 4000000 in
set_option maxRecDepth 100000 in
theorem c_Md_push (l : Launch) (D : va_G) (cA : Nat → ClassId) (n : Nat) (ob0 ad0 : Nat → Nat) (s0 : S_Md) (p0 : Int32) (p1 : Int32) (out : Int32 × S_Md) (k : KC) (hm : m_Md_push n s0 p0 p1 = some (out, k)) : XM l D cA y_Md_push b_Md_push 5 (some FieldType.int) 1 21 [.ref (ob0 0), .int p0, .int p1] ((w_Md cA ob0 ad0  s0)) k (fun _ => some (.int (out.1))) (fun ad => (w_Md cA ob0 ad  (out.2))) := by
  refine x_met (cc := b_Md_push) (nL := 5) (ret := (some FieldType.int)) R_Md (by decide) (Nat.le_of_ble_eq_true rfl) rfl (fun X F I E => ?_)
  unfold m_Md_push at hm
  refine x_nf2 (ws' := [((ob0 0), .inr (8, [.ref (ob0 1), .ref (ob0 2), .ref (ob0 3), .ref (ob0 4), .ref (ob0 5), .ref (ob0 6), .ref (ob0 7), .ref (ob0 8), .ref (ob0 9), .int (Md_end s0), .int (Md_nodes s0), .ref (ob0 10), .ref (ob0 11), .int (Md_fields s0), .ref (ob0 12), .ref (ob0 13), .int (Md_pushed s0), .ref (ob0 14), .int (Md_touches s0), .ref (ob0 15), .ref (ob0 16), .ref (ob0 17), .ref (ob0 18), .ref (ad0 0), .ref (ad0 1), .int (Md_length s0)])), ((ob0 1), .inl (cA 1, (Md_kinds s0).1, .inl (Md_kinds s0).2)), ((ob0 2), .inl (cA 0, (Md_values s0).1, .inl (Md_values s0).2)), ((ob0 3), .inl (cA 0, (Md_firsts s0).1, .inl (Md_firsts s0).2)), ((ob0 4), .inl (cA 0, (Md_manies s0).1, .inl (Md_manies s0).2)), ((ob0 5), .inl (cA 2, (Md_said s0).1, .inl (Md_said s0).2)), ((ob0 6), .inl (cA 2, (Md_marked s0).1, .inl (Md_marked s0).2)), ((ob0 7), .inl (cA 0, (Md_leaders s0).1, .inl (Md_leaders s0).2)), ((ob0 8), .inl (cA 0, (Md_trial s0).1, .inl (Md_trial s0).2)), ((ob0 9), .inl (cA 0, (Md_shown s0).1, .inl (Md_shown s0).2)), ((ob0 10), .inl (cA 0, (Md_features s0).1, .inl (Md_features s0).2)), ((ob0 11), .inl (cA 0, (Md_parts s0).1, .inl (Md_parts s0).2)), ((ob0 12), .inl (cA 0, (Md_pushedFeatures s0).1, .inl (Md_pushedFeatures s0).2)), ((ob0 13), .inl (cA 0, (Md_pushedParts s0).1, .inl (Md_pushedParts s0).2)), ((ob0 14), .inl (cA 0, (Md_touched s0).1, .inl (Md_touched s0).2)), ((ob0 15), .inl (cA 0, (Md_reached s0).1, .inl (Md_reached s0).2)), ((ob0 16), .inl (cA 0, (Md_blocks s0).1, .inl (Md_blocks s0).2)), ((ob0 17), .inl (cA 0, (Md_newBlocks s0).1, .inl (Md_newBlocks s0).2)), ((ob0 18), .inl (cA 0, (Md_places s0).1, .inl (Md_places s0).2)), ((ad0 0), .inl (cA 0, (Md_written s0).1, .inl (Md_written s0).2)), ((ad0 1), .inl (cA 0, (Md_other s0).1, .inl (Md_other s0).2))]) (lv' := [(0, .ref (ob0 0)), (1, .int p0), (2, .int p1)]) rfl rfl ?_
  refine x_aload_n F d_Md_push_0 0 rfl rfl ?_
  refine x_iload_n F d_Md_push_1 2 rfl rfl ?_
  replace hm := xm_b_some hm
  obtain ⟨o35, k36, k37, h38, hm, c_o35, d_o35⟩ := hm
  refine x_callV (n := 1) (C := R_Md) (wr := []) F (c_Md_has l D cA n ob0 ad0 s0 p1 o35 k36 h38) kw_742 kw_739 kw_741 kw_20 kw_47 ⟨rfl, by decide, by decide, by decide +kernel⟩ rfl (by decide) (by decide) (ci := 8) rfl rfl 0 rfl [0, 1, 2, 3, 4, 5, 6, 7, 8, 9, 10, 11, 12, 13, 14, 15, 16, 17, 18, 19, 20] [] rfl rfl (by decide) (by decide) (by decide) rfl (Nat.le_of_ble_eq_true rfl) (by omega) (by omega) d_Md_push_2 (fun ad39 => ?_)
  refine x_nf (ws' := [((ob0 0), .inr (8, [.ref (ob0 1), .ref (ob0 2), .ref (ob0 3), .ref (ob0 4), .ref (ob0 5), .ref (ob0 6), .ref (ob0 7), .ref (ob0 8), .ref (ob0 9), .int (Md_end s0), .int (Md_nodes s0), .ref (ob0 10), .ref (ob0 11), .int (Md_fields s0), .ref (ob0 12), .ref (ob0 13), .int (Md_pushed s0), .ref (ob0 14), .int (Md_touches s0), .ref (ob0 15), .ref (ob0 16), .ref (ob0 17), .ref (ob0 18), .ref (ad0 0), .ref (ad0 1), .int (Md_length s0)])), ((ob0 1), .inl (cA 1, (Md_kinds s0).1, .inl (Md_kinds s0).2)), ((ob0 2), .inl (cA 0, (Md_values s0).1, .inl (Md_values s0).2)), ((ob0 3), .inl (cA 0, (Md_firsts s0).1, .inl (Md_firsts s0).2)), ((ob0 4), .inl (cA 0, (Md_manies s0).1, .inl (Md_manies s0).2)), ((ob0 5), .inl (cA 2, (Md_said s0).1, .inl (Md_said s0).2)), ((ob0 6), .inl (cA 2, (Md_marked s0).1, .inl (Md_marked s0).2)), ((ob0 7), .inl (cA 0, (Md_leaders s0).1, .inl (Md_leaders s0).2)), ((ob0 8), .inl (cA 0, (Md_trial s0).1, .inl (Md_trial s0).2)), ((ob0 9), .inl (cA 0, (Md_shown s0).1, .inl (Md_shown s0).2)), ((ob0 10), .inl (cA 0, (Md_features s0).1, .inl (Md_features s0).2)), ((ob0 11), .inl (cA 0, (Md_parts s0).1, .inl (Md_parts s0).2)), ((ob0 12), .inl (cA 0, (Md_pushedFeatures s0).1, .inl (Md_pushedFeatures s0).2)), ((ob0 13), .inl (cA 0, (Md_pushedParts s0).1, .inl (Md_pushedParts s0).2)), ((ob0 14), .inl (cA 0, (Md_touched s0).1, .inl (Md_touched s0).2)), ((ob0 15), .inl (cA 0, (Md_reached s0).1, .inl (Md_reached s0).2)), ((ob0 16), .inl (cA 0, (Md_blocks s0).1, .inl (Md_blocks s0).2)), ((ob0 17), .inl (cA 0, (Md_newBlocks s0).1, .inl (Md_newBlocks s0).2)), ((ob0 18), .inl (cA 0, (Md_places s0).1, .inl (Md_places s0).2)), ((ad0 0), .inl (cA 0, (Md_written s0).1, .inl (Md_written s0).2)), ((ad0 1), .inl (cA 0, (Md_other s0).1, .inl (Md_other s0).2))]) (st' := [.int o35]) rfl rfl ?_
  replace hm := xm_b_some hm
  obtain ⟨j40, k41, k42, h43, hm, c_j40, d_j40⟩ := hm
  refine x_mrg (k1 := k41) (M := 31) (v := j40) (st := []) ?_ (fun J => ?_)
  · skip
    refine x_istore_n (lv' := [(3, .int j40), (0, .ref (ob0 0)), (1, .int p0), (2, .int p1)]) F d_Md_push_31 rfl (by decide) rfl ?_
    refine x_iconst (v := (0 : Int32)) F d_Md_push_32 (by decide) ?_
    refine x_istore (lv' := [(4, .int (0 : Int32)), (3, .int j40), (0, .ref (ob0 0)), (1, .int p0), (2, .int p1)]) F d_Md_push_33 (by decide) rfl ?_
    replace hm := xm_b_some hm
    obtain ⟨o52, k53, k54, h55, hm, c_o52, d_o52⟩ := hm
    refine x_sub [0, 1, 2, 3, 4, 5, 6, 7, 8, 9, 10, 11, 12, 13, 14, 15, 16, 17, 18, 19, 20] (by decide) ?_ (x_lv [2, 3, 4, 1, 0] ?_ (wl_Md_push_35 F n ob0 p0 p1 s0 ad0 n j40 (0 : Int32)  _ _ o52 k53 h55 (by omega) (by omega) (fun ad56 => ?_)))
    · rfl
    · rfl
    refine x_nf2 (ws' := [((ob0 0), .inr (8, [.ref (ob0 1), .ref (ob0 2), .ref (ob0 3), .ref (ob0 4), .ref (ob0 5), .ref (ob0 6), .ref (ob0 7), .ref (ob0 8), .ref (ob0 9), .int (Md_end s0), .int (Md_nodes s0), .ref (ob0 10), .ref (ob0 11), .int (Md_fields s0), .ref (ob0 12), .ref (ob0 13), .int (Md_pushed s0), .ref (ob0 14), .int (Md_touches s0), .ref (ob0 15), .ref (ob0 16), .ref (ob0 17), .ref (ob0 18), .ref (ad0 0), .ref (ad0 1), .int (Md_length s0)])), ((ob0 1), .inl (cA 1, (Md_kinds s0).1, .inl (Md_kinds s0).2)), ((ob0 2), .inl (cA 0, (Md_values s0).1, .inl (Md_values s0).2)), ((ob0 3), .inl (cA 0, (Md_firsts s0).1, .inl (Md_firsts s0).2)), ((ob0 4), .inl (cA 0, (Md_manies s0).1, .inl (Md_manies s0).2)), ((ob0 5), .inl (cA 2, (Md_said s0).1, .inl (Md_said s0).2)), ((ob0 6), .inl (cA 2, (Md_marked s0).1, .inl (Md_marked s0).2)), ((ob0 7), .inl (cA 0, (Md_leaders s0).1, .inl (Md_leaders s0).2)), ((ob0 8), .inl (cA 0, (Md_trial s0).1, .inl (Md_trial s0).2)), ((ob0 9), .inl (cA 0, (Md_shown s0).1, .inl (Md_shown s0).2)), ((ob0 10), .inl (cA 0, (Md_features s0).1, .inl (Md_features s0).2)), ((ob0 11), .inl (cA 0, (Md_parts s0).1, .inl (Md_parts s0).2)), ((ob0 12), .inl (cA 0, (Md_pushedFeatures s0).1, .inl (Md_pushedFeatures s0).2)), ((ob0 13), .inl (cA 0, (Md_pushedParts s0).1, .inl (Md_pushedParts s0).2)), ((ob0 14), .inl (cA 0, (Md_touched s0).1, .inl (Md_touched s0).2)), ((ob0 15), .inl (cA 0, (Md_reached s0).1, .inl (Md_reached s0).2)), ((ob0 16), .inl (cA 0, (Md_blocks s0).1, .inl (Md_blocks s0).2)), ((ob0 17), .inl (cA 0, (Md_newBlocks s0).1, .inl (Md_newBlocks s0).2)), ((ob0 18), .inl (cA 0, (Md_places s0).1, .inl (Md_places s0).2)), ((ad0 0), .inl (cA 0, (Md_written s0).1, .inl (Md_written s0).2)), ((ad0 1), .inl (cA 0, (Md_other s0).1, .inl (Md_other s0).2))]) (lv' := [(0, .ref (ob0 0)), (1, .int p0), (2, .int p1), (3, .int (o52.1)), (4, .int (o52.2))]) rfl rfl ?_
    refine x_iload_n F d_Md_push_71 3 rfl rfl ?_
    refine x_if_ne F 77 d_Md_push_72 (by decide) (fun c57 => ?_) (fun c57 => ?_)
    · replace hm := xm_f hm c57
      refine x_aload_n F d_Md_push_77 0 rfl rfl ?_
      refine x_get F ck_Md hin_Md 0 16 rfl (by decide) kw_650 rfl rfl d_Md_push_78 ?_
      refine x_sipush (v := (255 : Int32)) F d_Md_push_81 (by decide) ?_
      refine x_icmp_ne F 90 d_Md_push_84 (by decide) (fun c58 => ?_) (fun c58 => ?_)
      · replace hm := xm_f hm c58
        refine x_aload_n F d_Md_push_90 0 rfl rfl ?_
        refine x_get F ck_Md hin_Md 0 16 rfl (by decide) kw_650 rfl rfl d_Md_push_91 ?_
        refine x_istore (lv' := [(4, .int (Md_pushed s0)), (0, .ref (ob0 0)), (1, .int p0), (2, .int p1), (3, .int (o52.1))]) F d_Md_push_94 (by decide) rfl ?_
        replace hm := xm_b_some hm
        obtain ⟨o76, k77, k78, h79, hm, c_o76, d_o76⟩ := hm
        refine x_sub [0, 1, 2, 3, 4, 5, 6, 7, 8, 9, 10, 11, 12, 13, 14, 15, 16, 17, 18, 19, 20] (by decide) ?_ (x_lv [1, 2, 3, 4, 0] ?_ (wl_Md_push_96 F n ob0 p0 p1 (o52.1)  n (Md_pushed s0) s0 ad0 _ _ o76 k77 h79 (by omega) (by omega) (fun ad80 => ?_)))
        · rfl
        · rfl
        refine x_nf2 (ws' := [((ob0 0), .inr (8, [.ref (ob0 1), .ref (ob0 2), .ref (ob0 3), .ref (ob0 4), .ref (ob0 5), .ref (ob0 6), .ref (ob0 7), .ref (ob0 8), .ref (ob0 9), .int (Md_end (o76.2)), .int (Md_nodes (o76.2)), .ref (ob0 10), .ref (ob0 11), .int (Md_fields (o76.2)), .ref (ob0 12), .ref (ob0 13), .int (Md_pushed (o76.2)), .ref (ob0 14), .int (Md_touches (o76.2)), .ref (ob0 15), .ref (ob0 16), .ref (ob0 17), .ref (ob0 18), .ref (ad80 0), .ref (ad80 1), .int (Md_length (o76.2))])), ((ob0 1), .inl (cA 1, (Md_kinds (o76.2)).1, .inl (Md_kinds (o76.2)).2)), ((ob0 2), .inl (cA 0, (Md_values (o76.2)).1, .inl (Md_values (o76.2)).2)), ((ob0 3), .inl (cA 0, (Md_firsts (o76.2)).1, .inl (Md_firsts (o76.2)).2)), ((ob0 4), .inl (cA 0, (Md_manies (o76.2)).1, .inl (Md_manies (o76.2)).2)), ((ob0 5), .inl (cA 2, (Md_said (o76.2)).1, .inl (Md_said (o76.2)).2)), ((ob0 6), .inl (cA 2, (Md_marked (o76.2)).1, .inl (Md_marked (o76.2)).2)), ((ob0 7), .inl (cA 0, (Md_leaders (o76.2)).1, .inl (Md_leaders (o76.2)).2)), ((ob0 8), .inl (cA 0, (Md_trial (o76.2)).1, .inl (Md_trial (o76.2)).2)), ((ob0 9), .inl (cA 0, (Md_shown (o76.2)).1, .inl (Md_shown (o76.2)).2)), ((ob0 10), .inl (cA 0, (Md_features (o76.2)).1, .inl (Md_features (o76.2)).2)), ((ob0 11), .inl (cA 0, (Md_parts (o76.2)).1, .inl (Md_parts (o76.2)).2)), ((ob0 12), .inl (cA 0, (Md_pushedFeatures (o76.2)).1, .inl (Md_pushedFeatures (o76.2)).2)), ((ob0 13), .inl (cA 0, (Md_pushedParts (o76.2)).1, .inl (Md_pushedParts (o76.2)).2)), ((ob0 14), .inl (cA 0, (Md_touched (o76.2)).1, .inl (Md_touched (o76.2)).2)), ((ob0 15), .inl (cA 0, (Md_reached (o76.2)).1, .inl (Md_reached (o76.2)).2)), ((ob0 16), .inl (cA 0, (Md_blocks (o76.2)).1, .inl (Md_blocks (o76.2)).2)), ((ob0 17), .inl (cA 0, (Md_newBlocks (o76.2)).1, .inl (Md_newBlocks (o76.2)).2)), ((ob0 18), .inl (cA 0, (Md_places (o76.2)).1, .inl (Md_places (o76.2)).2)), ((ad80 0), .inl (cA 0, (Md_written (o76.2)).1, .inl (Md_written (o76.2)).2)), ((ad80 1), .inl (cA 0, (Md_other (o76.2)).1, .inl (Md_other (o76.2)).2))]) (lv' := [(0, .ref (ob0 0)), (1, .int p0), (2, .int p1), (3, .int (o52.1)), (4, .int (o76.1))]) rfl rfl ?_
        refine x_aload_n F d_Md_push_158 0 rfl rfl ?_
        refine x_get F ck_Md hin_Md 0 14 rfl (by decide) kw_648 rfl rfl d_Md_push_159 ?_
        refine x_iload F d_Md_push_162 4 rfl ?_
        refine x_iload_n F d_Md_push_164 1 rfl rfl ?_
        replace hm := xm_wr_some hm
        obtain ⟨a81, e_a81, b_a81, hm⟩ := hm
        refine x_iast (x := (Md_pushedFeatures (o76.2))) (x' := a81) (ws' := [((ob0 0), .inr (8, [.ref (ob0 1), .ref (ob0 2), .ref (ob0 3), .ref (ob0 4), .ref (ob0 5), .ref (ob0 6), .ref (ob0 7), .ref (ob0 8), .ref (ob0 9), .int (Md_end (o76.2)), .int (Md_nodes (o76.2)), .ref (ob0 10), .ref (ob0 11), .int (Md_fields (o76.2)), .ref (ob0 12), .ref (ob0 13), .int (Md_pushed (o76.2)), .ref (ob0 14), .int (Md_touches (o76.2)), .ref (ob0 15), .ref (ob0 16), .ref (ob0 17), .ref (ob0 18), .ref (ad80 0), .ref (ad80 1), .int (Md_length (o76.2))])), ((ob0 1), .inl (cA 1, (Md_kinds (o76.2)).1, .inl (Md_kinds (o76.2)).2)), ((ob0 2), .inl (cA 0, (Md_values (o76.2)).1, .inl (Md_values (o76.2)).2)), ((ob0 3), .inl (cA 0, (Md_firsts (o76.2)).1, .inl (Md_firsts (o76.2)).2)), ((ob0 4), .inl (cA 0, (Md_manies (o76.2)).1, .inl (Md_manies (o76.2)).2)), ((ob0 5), .inl (cA 2, (Md_said (o76.2)).1, .inl (Md_said (o76.2)).2)), ((ob0 6), .inl (cA 2, (Md_marked (o76.2)).1, .inl (Md_marked (o76.2)).2)), ((ob0 7), .inl (cA 0, (Md_leaders (o76.2)).1, .inl (Md_leaders (o76.2)).2)), ((ob0 8), .inl (cA 0, (Md_trial (o76.2)).1, .inl (Md_trial (o76.2)).2)), ((ob0 9), .inl (cA 0, (Md_shown (o76.2)).1, .inl (Md_shown (o76.2)).2)), ((ob0 10), .inl (cA 0, (Md_features (o76.2)).1, .inl (Md_features (o76.2)).2)), ((ob0 11), .inl (cA 0, (Md_parts (o76.2)).1, .inl (Md_parts (o76.2)).2)), ((ob0 12), .inl (cA 0, a81.1, .inl a81.2)), ((ob0 13), .inl (cA 0, (Md_pushedParts (o76.2)).1, .inl (Md_pushedParts (o76.2)).2)), ((ob0 14), .inl (cA 0, (Md_touched (o76.2)).1, .inl (Md_touched (o76.2)).2)), ((ob0 15), .inl (cA 0, (Md_reached (o76.2)).1, .inl (Md_reached (o76.2)).2)), ((ob0 16), .inl (cA 0, (Md_blocks (o76.2)).1, .inl (Md_blocks (o76.2)).2)), ((ob0 17), .inl (cA 0, (Md_newBlocks (o76.2)).1, .inl (Md_newBlocks (o76.2)).2)), ((ob0 18), .inl (cA 0, (Md_places (o76.2)).1, .inl (Md_places (o76.2)).2)), ((ad80 0), .inl (cA 0, (Md_written (o76.2)).1, .inl (Md_written (o76.2)).2)), ((ad80 1), .inl (cA 0, (Md_other (o76.2)).1, .inl (Md_other (o76.2)).2))]) F 12 rfl e_a81 b_a81 rfl d_Md_push_165 ?_
        refine x_aload_n F d_Md_push_166 0 rfl rfl ?_
        refine x_get F ck_Md hin_Md 0 15 rfl (by decide) kw_649 rfl rfl d_Md_push_167 ?_
        refine x_iload F d_Md_push_170 4 rfl ?_
        refine x_iload_n F d_Md_push_172 2 rfl rfl ?_
        replace hm := xm_wr_some hm
        obtain ⟨a82, e_a82, b_a82, hm⟩ := hm
        refine x_iast (x := (Md_pushedParts (o76.2))) (x' := a82) (ws' := [((ob0 0), .inr (8, [.ref (ob0 1), .ref (ob0 2), .ref (ob0 3), .ref (ob0 4), .ref (ob0 5), .ref (ob0 6), .ref (ob0 7), .ref (ob0 8), .ref (ob0 9), .int (Md_end (o76.2)), .int (Md_nodes (o76.2)), .ref (ob0 10), .ref (ob0 11), .int (Md_fields (o76.2)), .ref (ob0 12), .ref (ob0 13), .int (Md_pushed (o76.2)), .ref (ob0 14), .int (Md_touches (o76.2)), .ref (ob0 15), .ref (ob0 16), .ref (ob0 17), .ref (ob0 18), .ref (ad80 0), .ref (ad80 1), .int (Md_length (o76.2))])), ((ob0 1), .inl (cA 1, (Md_kinds (o76.2)).1, .inl (Md_kinds (o76.2)).2)), ((ob0 2), .inl (cA 0, (Md_values (o76.2)).1, .inl (Md_values (o76.2)).2)), ((ob0 3), .inl (cA 0, (Md_firsts (o76.2)).1, .inl (Md_firsts (o76.2)).2)), ((ob0 4), .inl (cA 0, (Md_manies (o76.2)).1, .inl (Md_manies (o76.2)).2)), ((ob0 5), .inl (cA 2, (Md_said (o76.2)).1, .inl (Md_said (o76.2)).2)), ((ob0 6), .inl (cA 2, (Md_marked (o76.2)).1, .inl (Md_marked (o76.2)).2)), ((ob0 7), .inl (cA 0, (Md_leaders (o76.2)).1, .inl (Md_leaders (o76.2)).2)), ((ob0 8), .inl (cA 0, (Md_trial (o76.2)).1, .inl (Md_trial (o76.2)).2)), ((ob0 9), .inl (cA 0, (Md_shown (o76.2)).1, .inl (Md_shown (o76.2)).2)), ((ob0 10), .inl (cA 0, (Md_features (o76.2)).1, .inl (Md_features (o76.2)).2)), ((ob0 11), .inl (cA 0, (Md_parts (o76.2)).1, .inl (Md_parts (o76.2)).2)), ((ob0 12), .inl (cA 0, a81.1, .inl a81.2)), ((ob0 13), .inl (cA 0, a82.1, .inl a82.2)), ((ob0 14), .inl (cA 0, (Md_touched (o76.2)).1, .inl (Md_touched (o76.2)).2)), ((ob0 15), .inl (cA 0, (Md_reached (o76.2)).1, .inl (Md_reached (o76.2)).2)), ((ob0 16), .inl (cA 0, (Md_blocks (o76.2)).1, .inl (Md_blocks (o76.2)).2)), ((ob0 17), .inl (cA 0, (Md_newBlocks (o76.2)).1, .inl (Md_newBlocks (o76.2)).2)), ((ob0 18), .inl (cA 0, (Md_places (o76.2)).1, .inl (Md_places (o76.2)).2)), ((ad80 0), .inl (cA 0, (Md_written (o76.2)).1, .inl (Md_written (o76.2)).2)), ((ad80 1), .inl (cA 0, (Md_other (o76.2)).1, .inl (Md_other (o76.2)).2))]) F 13 rfl e_a82 b_a82 rfl d_Md_push_173 ?_
        refine x_aload_n F d_Md_push_174 0 rfl rfl ?_
        refine x_dup F d_Md_push_175 rfl ?_
        refine x_get F ck_Md hin_Md 0 16 rfl (by decide) kw_650 rfl rfl d_Md_push_176 ?_
        refine x_iconst (v := (1 : Int32)) F d_Md_push_179 (by decide) ?_
        refine x_iadd F d_Md_push_180 ?_
        refine x_put (ws' := [((ob0 0), .inr (8, [.ref (ob0 1), .ref (ob0 2), .ref (ob0 3), .ref (ob0 4), .ref (ob0 5), .ref (ob0 6), .ref (ob0 7), .ref (ob0 8), .ref (ob0 9), .int (Md_end (o76.2)), .int (Md_nodes (o76.2)), .ref (ob0 10), .ref (ob0 11), .int (Md_fields (o76.2)), .ref (ob0 12), .ref (ob0 13), .int ((Md_pushed (o76.2)) + (1 : Int32)), .ref (ob0 14), .int (Md_touches (o76.2)), .ref (ob0 15), .ref (ob0 16), .ref (ob0 17), .ref (ob0 18), .ref (ad80 0), .ref (ad80 1), .int (Md_length (o76.2))])), ((ob0 1), .inl (cA 1, (Md_kinds (o76.2)).1, .inl (Md_kinds (o76.2)).2)), ((ob0 2), .inl (cA 0, (Md_values (o76.2)).1, .inl (Md_values (o76.2)).2)), ((ob0 3), .inl (cA 0, (Md_firsts (o76.2)).1, .inl (Md_firsts (o76.2)).2)), ((ob0 4), .inl (cA 0, (Md_manies (o76.2)).1, .inl (Md_manies (o76.2)).2)), ((ob0 5), .inl (cA 2, (Md_said (o76.2)).1, .inl (Md_said (o76.2)).2)), ((ob0 6), .inl (cA 2, (Md_marked (o76.2)).1, .inl (Md_marked (o76.2)).2)), ((ob0 7), .inl (cA 0, (Md_leaders (o76.2)).1, .inl (Md_leaders (o76.2)).2)), ((ob0 8), .inl (cA 0, (Md_trial (o76.2)).1, .inl (Md_trial (o76.2)).2)), ((ob0 9), .inl (cA 0, (Md_shown (o76.2)).1, .inl (Md_shown (o76.2)).2)), ((ob0 10), .inl (cA 0, (Md_features (o76.2)).1, .inl (Md_features (o76.2)).2)), ((ob0 11), .inl (cA 0, (Md_parts (o76.2)).1, .inl (Md_parts (o76.2)).2)), ((ob0 12), .inl (cA 0, a81.1, .inl a81.2)), ((ob0 13), .inl (cA 0, a82.1, .inl a82.2)), ((ob0 14), .inl (cA 0, (Md_touched (o76.2)).1, .inl (Md_touched (o76.2)).2)), ((ob0 15), .inl (cA 0, (Md_reached (o76.2)).1, .inl (Md_reached (o76.2)).2)), ((ob0 16), .inl (cA 0, (Md_blocks (o76.2)).1, .inl (Md_blocks (o76.2)).2)), ((ob0 17), .inl (cA 0, (Md_newBlocks (o76.2)).1, .inl (Md_newBlocks (o76.2)).2)), ((ob0 18), .inl (cA 0, (Md_places (o76.2)).1, .inl (Md_places (o76.2)).2)), ((ad80 0), .inl (cA 0, (Md_written (o76.2)).1, .inl (Md_written (o76.2)).2)), ((ad80 1), .inl (cA 0, (Md_other (o76.2)).1, .inl (Md_other (o76.2)).2))]) F ck_Md hin_Md 0 16 rfl (by decide) kw_650 rfl rfl rfl rfl (Nat.le_of_ble_eq_true rfl) rfl d_Md_push_181 ?_
        refine x_aload_n F d_Md_push_184 0 rfl rfl ?_
        refine x_get F ck_Md hin_Md 0 16 rfl (by decide) kw_650 rfl rfl d_Md_push_185 ?_
        replace hm := xm_p_some hm
        obtain ⟨eo, c_o, d_o⟩ := hm
        subst eo
        refine x_sub [0, 1, 2, 3, 4, 5, 6, 7, 8, 9, 10, 11, 12, 13, 14, 15, 16, 17, 18, 19, 20] (by decide) ?_ (xe_i E ad80 (by omega) (by omega) rfl (xz_i _) d_Md_push_188)
        rfl
      · replace hm := xm_t hm c58
        refine x_bipush (v := (-2 : Int32)) F d_Md_push_87 (by decide) ?_
        replace hm := xm_p_some hm
        obtain ⟨eo, c_o, d_o⟩ := hm
        subst eo
        refine x_sub [0, 1, 2, 3, 4, 5, 6, 7, 8, 9, 10, 11, 12, 13, 14, 15, 16, 17, 18, 19, 20] (by decide) ?_ (xe_i E ad0 (by omega) (by omega) rfl (xz_i _) d_Md_push_89)
        rfl
    · replace hm := xm_t hm c57
      refine x_iconst (v := (-1 : Int32)) F d_Md_push_75 (by decide) ?_
      replace hm := xm_p_some hm
      obtain ⟨eo, c_o, d_o⟩ := hm
      subst eo
      refine x_sub [0, 1, 2, 3, 4, 5, 6, 7, 8, 9, 10, 11, 12, 13, 14, 15, 16, 17, 18, 19, 20] (by decide) ?_ (xe_i E ad0 (by omega) (by omega) rfl (xz_i _) d_Md_push_76)
      rfl
  · replace hm := h43
    refine x_if_eq F 30 d_Md_push_5 (by decide) (fun c83 => ?_) (fun c83 => ?_)
    · replace hm := xm_t hm c83
      refine x_iconst (v := (0 : Int32)) F d_Md_push_30 (by decide) ?_
      replace hm := xm_p_some hm
      obtain ⟨eo, c_o, d_o⟩ := hm
      subst eo
      exact x_cs (by omega) (by omega) J
    · replace hm := xm_f hm c83
      refine x_iload_n F d_Md_push_8 1 rfl rfl ?_
      refine x_if_eq F 30 d_Md_push_9 (by decide) (fun c84 => ?_) (fun c84 => ?_)
      · replace hm := xm_t hm c84
        refine x_iconst (v := (0 : Int32)) F d_Md_push_30 (by decide) ?_
        replace hm := xm_p_some hm
        obtain ⟨eo, c_o, d_o⟩ := hm
        subst eo
        exact x_cs (by omega) (by omega) J
      · replace hm := xm_f hm c84
        refine x_iload_n F d_Md_push_12 1 rfl rfl ?_
        refine x_sipush (v := (9999 : Int32)) F d_Md_push_13 (by decide) ?_
        refine x_icmp_gt F 30 d_Md_push_16 (by decide) (fun c85 => ?_) (fun c85 => ?_)
        · replace hm := xm_t hm c85
          refine x_iconst (v := (0 : Int32)) F d_Md_push_30 (by decide) ?_
          replace hm := xm_p_some hm
          obtain ⟨eo, c_o, d_o⟩ := hm
          subst eo
          exact x_cs (by omega) (by omega) J
        · replace hm := xm_f hm c85
          refine x_iload_n F d_Md_push_19 1 rfl rfl ?_
          refine x_sipush (v := (-8192 : Int32)) F d_Md_push_20 (by decide) ?_
          refine x_icmp_lt F 30 d_Md_push_23 (by decide) (fun c86 => ?_) (fun c86 => ?_)
          · replace hm := xm_t hm c86
            refine x_iconst (v := (0 : Int32)) F d_Md_push_30 (by decide) ?_
            replace hm := xm_p_some hm
            obtain ⟨eo, c_o, d_o⟩ := hm
            subst eo
            exact x_cs (by omega) (by omega) J
          · replace hm := xm_f hm c86
            refine x_iconst (v := (1 : Int32)) F d_Md_push_26 (by decide) ?_
            refine x_goto F 31 d_Md_push_27 (by decide) ?_
            replace hm := xm_p_some hm
            obtain ⟨eo, c_o, d_o⟩ := hm
            subst eo
            exact x_cs (by omega) (by omega) J

noncomputable def L_Md_makeOf_43 (y1 : Int32) (y2 : Int32) (y3 : Int32) (n i : Nat) : Int32 → S_Md → MO (Int32 × S_Md) := Nat.rec (motive := fun _ => Int32 → S_Md → MO (Int32 × S_Md)) (fun _ _ => none) (fun _ ih x4 s0 => (if (Md_pushed s0) ≤ x4 then (xm_p ((x4, s0))) else (xm_rd (Md_pushedFeatures s0) x4 (fun v23 => (xm_wr (Md_features s0) (Md_fields s0) v23 (fun a24 => (xm_rd (Md_pushedParts s0) x4 (fun v25 => (xm_wr (Md_parts s0) (Md_fields s0) v25 (fun a26 => (ih (x4 + 1) ((Md_kinds s0), (Md_values s0), (Md_firsts s0), (Md_manies s0), (Md_said s0), (Md_marked s0), (Md_leaders s0), (Md_trial s0), (Md_shown s0), (Md_end s0), (Md_nodes s0), a24, a26, ((Md_fields s0) + (1 : Int32)), (Md_pushedFeatures s0), (Md_pushedParts s0), (Md_pushed s0), (Md_touched s0), (Md_touches s0), (Md_reached s0), (Md_blocks s0), (Md_newBlocks s0), (Md_places s0), (Md_written s0), (Md_other s0), (Md_length s0))))))))))))) i
theorem L_Md_makeOf_43_s (y1 : Int32) (y2 : Int32) (y3 : Int32) (n i : Nat) (x4 : Int32) (s0 : S_Md) : L_Md_makeOf_43 y1 y2 y3 n (i + 1) x4 s0 = (if (Md_pushed s0) ≤ x4 then (xm_p ((x4, s0))) else (xm_rd (Md_pushedFeatures s0) x4 (fun v23 => (xm_wr (Md_features s0) (Md_fields s0) v23 (fun a24 => (xm_rd (Md_pushedParts s0) x4 (fun v25 => (xm_wr (Md_parts s0) (Md_fields s0) v25 (fun a26 => (L_Md_makeOf_43 y1 y2 y3 n i (x4 + 1) ((Md_kinds s0), (Md_values s0), (Md_firsts s0), (Md_manies s0), (Md_said s0), (Md_marked s0), (Md_leaders s0), (Md_trial s0), (Md_shown s0), (Md_end s0), (Md_nodes s0), a24, a26, ((Md_fields s0) + (1 : Int32)), (Md_pushedFeatures s0), (Md_pushedParts s0), (Md_pushed s0), (Md_touched s0), (Md_touches s0), (Md_reached s0), (Md_blocks s0), (Md_newBlocks s0), (Md_places s0), (Md_written s0), (Md_other s0), (Md_length s0)))))))))))) := rfl
noncomputable def m_Md_makeOf (n : Nat) (s0 : S_Md) (p0 : Int32) (p1 : Int32) : MO (Int32 × S_Md) := (if ((Md_fields s0) + (Md_pushed s0)) ≤ (65536 : Int32) then (xm_b (m_Md_make n s0 p0 p1) (fun o15 => (if 0 ≤ (o15.1) then (xm_wr (Md_manies (o15.2)) (o15.1) (Md_pushed (o15.2)) (fun a21 => (xm_b (L_Md_makeOf_43 p0 p1 (o15.1) n n (0 : Int32) ((Md_kinds (o15.2)), (Md_values (o15.2)), (Md_firsts (o15.2)), a21, (Md_said (o15.2)), (Md_marked (o15.2)), (Md_leaders (o15.2)), (Md_trial (o15.2)), (Md_shown (o15.2)), (Md_end (o15.2)), (Md_nodes (o15.2)), (Md_features (o15.2)), (Md_parts (o15.2)), (Md_fields (o15.2)), (Md_pushedFeatures (o15.2)), (Md_pushedParts (o15.2)), (Md_pushed (o15.2)), (Md_touched (o15.2)), (Md_touches (o15.2)), (Md_reached (o15.2)), (Md_blocks (o15.2)), (Md_newBlocks (o15.2)), (Md_places (o15.2)), (Md_written (o15.2)), (Md_other (o15.2)), (Md_length (o15.2)))) (fun o27 => (xm_p ((o15.1), ((Md_kinds (o27.2)), (Md_values (o27.2)), (Md_firsts (o27.2)), (Md_manies (o27.2)), (Md_said (o27.2)), (Md_marked (o27.2)), (Md_leaders (o27.2)), (Md_trial (o27.2)), (Md_shown (o27.2)), (Md_end (o27.2)), (Md_nodes (o27.2)), (Md_features (o27.2)), (Md_parts (o27.2)), (Md_fields (o27.2)), (Md_pushedFeatures (o27.2)), (Md_pushedParts (o27.2)), (0 : Int32), (Md_touched (o27.2)), (Md_touches (o27.2)), (Md_reached (o27.2)), (Md_blocks (o27.2)), (Md_newBlocks (o27.2)), (Md_places (o27.2)), (Md_written (o27.2)), (Md_other (o27.2)), (Md_length (o27.2))))))))) else (xm_p ((o15.1), (o15.2)))))) else (xm_p ((-2 : Int32), s0)))
set_option maxHeartbeats 4000000 in
set_option maxRecDepth 100000 in
theorem wl_Md_makeOf_43 {X : XT} {l : Launch} {D : va_G} {cA : Nat → ClassId} {mc ms : Nat} (F : XF X l D cA b_Md_makeOf 5 (some FieldType.int) R_Md 2 44 mc ms) (n : Nat) (ob0 : Nat → Nat) (y1 : Int32) (y2 : Int32) (y3 : Int32)   : ∀ (i : Nat) (x4 : Int32) (s0 : S_Md) (ad0 : Nat → Nat) (nc ns : Nat) (out : Int32 × S_Md) (k : KC), L_Md_makeOf_43 y1 y2 y3 n i x4 s0 = some (out, k) → nc + k.1 ≤ mc → ns + k.2 ≤ ms → (∀ ad : Nat → Nat, XW X 5 ((w_Md cA ob0 ad  (out.2))) (nc + k.1) (ns + k.2) 100 [(0, .ref (ob0 0)), (1, .int y1), (2, .int y2), (3, .int y3), (4, .int (out.1))] []) → XW X 5 ((w_Md cA ob0 ad0  s0)) nc ns 43 [(0, .ref (ob0 0)), (1, .int y1), (2, .int y2), (3, .int y3), (4, .int x4)] [] := by
  intro i
  induction i with
  | zero =>
    intro x4 s0 ad0 nc ns out k hm
    replace hm : (none : MO (Int32 × S_Md)) = some (out, k) := hm
    cases hm
  | succ i ih =>
    intro x4 s0 ad0 nc ns out k hm hc hs KX
    rw [L_Md_makeOf_43_s] at hm
    refine x_ws (ws' := [((ob0 0), .inr (8, [.ref (ob0 1), .ref (ob0 2), .ref (ob0 3), .ref (ob0 4), .ref (ob0 5), .ref (ob0 6), .ref (ob0 7), .ref (ob0 8), .ref (ob0 9), .int (Md_end s0), .int (Md_nodes s0), .ref (ob0 10), .ref (ob0 11), .int (Md_fields s0), .ref (ob0 12), .ref (ob0 13), .int (Md_pushed s0), .ref (ob0 14), .int (Md_touches s0), .ref (ob0 15), .ref (ob0 16), .ref (ob0 17), .ref (ob0 18), .ref (ad0 0), .ref (ad0 1), .int (Md_length s0)])), ((ob0 1), .inl (cA 1, (Md_kinds s0).1, .inl (Md_kinds s0).2)), ((ob0 2), .inl (cA 0, (Md_values s0).1, .inl (Md_values s0).2)), ((ob0 3), .inl (cA 0, (Md_firsts s0).1, .inl (Md_firsts s0).2)), ((ob0 4), .inl (cA 0, (Md_manies s0).1, .inl (Md_manies s0).2)), ((ob0 5), .inl (cA 2, (Md_said s0).1, .inl (Md_said s0).2)), ((ob0 6), .inl (cA 2, (Md_marked s0).1, .inl (Md_marked s0).2)), ((ob0 7), .inl (cA 0, (Md_leaders s0).1, .inl (Md_leaders s0).2)), ((ob0 8), .inl (cA 0, (Md_trial s0).1, .inl (Md_trial s0).2)), ((ob0 9), .inl (cA 0, (Md_shown s0).1, .inl (Md_shown s0).2)), ((ob0 10), .inl (cA 0, (Md_features s0).1, .inl (Md_features s0).2)), ((ob0 11), .inl (cA 0, (Md_parts s0).1, .inl (Md_parts s0).2)), ((ob0 12), .inl (cA 0, (Md_pushedFeatures s0).1, .inl (Md_pushedFeatures s0).2)), ((ob0 13), .inl (cA 0, (Md_pushedParts s0).1, .inl (Md_pushedParts s0).2)), ((ob0 14), .inl (cA 0, (Md_touched s0).1, .inl (Md_touched s0).2)), ((ob0 15), .inl (cA 0, (Md_reached s0).1, .inl (Md_reached s0).2)), ((ob0 16), .inl (cA 0, (Md_blocks s0).1, .inl (Md_blocks s0).2)), ((ob0 17), .inl (cA 0, (Md_newBlocks s0).1, .inl (Md_newBlocks s0).2)), ((ob0 18), .inl (cA 0, (Md_places s0).1, .inl (Md_places s0).2)), ((ad0 0), .inl (cA 0, (Md_written s0).1, .inl (Md_written s0).2)), ((ad0 1), .inl (cA 0, (Md_other s0).1, .inl (Md_other s0).2))]) rfl ?_
    refine x_iload F d_Md_makeOf_43 4 rfl ?_
    refine x_aload_n F d_Md_makeOf_45 0 rfl rfl ?_
    refine x_get F ck_Md hin_Md 0 16 rfl (by decide) kw_650 rfl rfl d_Md_makeOf_46 ?_
    refine x_icmp_ge F 100 d_Md_makeOf_49 (by decide) (fun c22 => ?_) (fun c22 => ?_)
    · replace hm := xm_t hm c22
      replace hm := xm_p_some hm
      obtain ⟨eo, c_o, d_o⟩ := hm
      subst eo
      refine x_sub [0, 1, 2, 3, 4, 5, 6, 7, 8, 9, 10, 11, 12, 13, 14, 15, 16, 17, 18, 19, 20] (by decide) ?_ (x_lv [0, 1, 2, 3, 4] ?_ (x_cs (by omega) (by omega) (KX ad0)))
      · rfl
      · rfl
    · replace hm := xm_f hm c22
      refine x_aload_n F d_Md_makeOf_52 0 rfl rfl ?_
      refine x_get F ck_Md hin_Md 0 11 rfl (by decide) kw_645 rfl rfl d_Md_makeOf_53 ?_
      refine x_aload_n F d_Md_makeOf_56 0 rfl rfl ?_
      refine x_get F ck_Md hin_Md 0 13 rfl (by decide) kw_647 rfl rfl d_Md_makeOf_57 ?_
      refine x_aload_n F d_Md_makeOf_60 0 rfl rfl ?_
      refine x_get F ck_Md hin_Md 0 14 rfl (by decide) kw_648 rfl rfl d_Md_makeOf_61 ?_
      refine x_iload F d_Md_makeOf_64 4 rfl ?_
      replace hm := xm_rd_some hm
      obtain ⟨v23, e_v23, b_v23, hm⟩ := hm
      refine x_iald (x := (Md_pushedFeatures s0)) F 12 rfl e_v23 b_v23 d_Md_makeOf_66 ?_
      replace hm := xm_wr_some hm
      obtain ⟨a24, e_a24, b_a24, hm⟩ := hm
      refine x_iast (x := (Md_features s0)) (x' := a24) (ws' := [((ob0 0), .inr (8, [.ref (ob0 1), .ref (ob0 2), .ref (ob0 3), .ref (ob0 4), .ref (ob0 5), .ref (ob0 6), .ref (ob0 7), .ref (ob0 8), .ref (ob0 9), .int (Md_end s0), .int (Md_nodes s0), .ref (ob0 10), .ref (ob0 11), .int (Md_fields s0), .ref (ob0 12), .ref (ob0 13), .int (Md_pushed s0), .ref (ob0 14), .int (Md_touches s0), .ref (ob0 15), .ref (ob0 16), .ref (ob0 17), .ref (ob0 18), .ref (ad0 0), .ref (ad0 1), .int (Md_length s0)])), ((ob0 1), .inl (cA 1, (Md_kinds s0).1, .inl (Md_kinds s0).2)), ((ob0 2), .inl (cA 0, (Md_values s0).1, .inl (Md_values s0).2)), ((ob0 3), .inl (cA 0, (Md_firsts s0).1, .inl (Md_firsts s0).2)), ((ob0 4), .inl (cA 0, (Md_manies s0).1, .inl (Md_manies s0).2)), ((ob0 5), .inl (cA 2, (Md_said s0).1, .inl (Md_said s0).2)), ((ob0 6), .inl (cA 2, (Md_marked s0).1, .inl (Md_marked s0).2)), ((ob0 7), .inl (cA 0, (Md_leaders s0).1, .inl (Md_leaders s0).2)), ((ob0 8), .inl (cA 0, (Md_trial s0).1, .inl (Md_trial s0).2)), ((ob0 9), .inl (cA 0, (Md_shown s0).1, .inl (Md_shown s0).2)), ((ob0 10), .inl (cA 0, a24.1, .inl a24.2)), ((ob0 11), .inl (cA 0, (Md_parts s0).1, .inl (Md_parts s0).2)), ((ob0 12), .inl (cA 0, (Md_pushedFeatures s0).1, .inl (Md_pushedFeatures s0).2)), ((ob0 13), .inl (cA 0, (Md_pushedParts s0).1, .inl (Md_pushedParts s0).2)), ((ob0 14), .inl (cA 0, (Md_touched s0).1, .inl (Md_touched s0).2)), ((ob0 15), .inl (cA 0, (Md_reached s0).1, .inl (Md_reached s0).2)), ((ob0 16), .inl (cA 0, (Md_blocks s0).1, .inl (Md_blocks s0).2)), ((ob0 17), .inl (cA 0, (Md_newBlocks s0).1, .inl (Md_newBlocks s0).2)), ((ob0 18), .inl (cA 0, (Md_places s0).1, .inl (Md_places s0).2)), ((ad0 0), .inl (cA 0, (Md_written s0).1, .inl (Md_written s0).2)), ((ad0 1), .inl (cA 0, (Md_other s0).1, .inl (Md_other s0).2))]) F 10 rfl e_a24 b_a24 rfl d_Md_makeOf_67 ?_
      refine x_aload_n F d_Md_makeOf_68 0 rfl rfl ?_
      refine x_get F ck_Md hin_Md 0 12 rfl (by decide) kw_646 rfl rfl d_Md_makeOf_69 ?_
      refine x_aload_n F d_Md_makeOf_72 0 rfl rfl ?_
      refine x_get F ck_Md hin_Md 0 13 rfl (by decide) kw_647 rfl rfl d_Md_makeOf_73 ?_
      refine x_aload_n F d_Md_makeOf_76 0 rfl rfl ?_
      refine x_get F ck_Md hin_Md 0 15 rfl (by decide) kw_649 rfl rfl d_Md_makeOf_77 ?_
      refine x_iload F d_Md_makeOf_80 4 rfl ?_
      replace hm := xm_rd_some hm
      obtain ⟨v25, e_v25, b_v25, hm⟩ := hm
      refine x_iald (x := (Md_pushedParts s0)) F 13 rfl e_v25 b_v25 d_Md_makeOf_82 ?_
      replace hm := xm_wr_some hm
      obtain ⟨a26, e_a26, b_a26, hm⟩ := hm
      refine x_iast (x := (Md_parts s0)) (x' := a26) (ws' := [((ob0 0), .inr (8, [.ref (ob0 1), .ref (ob0 2), .ref (ob0 3), .ref (ob0 4), .ref (ob0 5), .ref (ob0 6), .ref (ob0 7), .ref (ob0 8), .ref (ob0 9), .int (Md_end s0), .int (Md_nodes s0), .ref (ob0 10), .ref (ob0 11), .int (Md_fields s0), .ref (ob0 12), .ref (ob0 13), .int (Md_pushed s0), .ref (ob0 14), .int (Md_touches s0), .ref (ob0 15), .ref (ob0 16), .ref (ob0 17), .ref (ob0 18), .ref (ad0 0), .ref (ad0 1), .int (Md_length s0)])), ((ob0 1), .inl (cA 1, (Md_kinds s0).1, .inl (Md_kinds s0).2)), ((ob0 2), .inl (cA 0, (Md_values s0).1, .inl (Md_values s0).2)), ((ob0 3), .inl (cA 0, (Md_firsts s0).1, .inl (Md_firsts s0).2)), ((ob0 4), .inl (cA 0, (Md_manies s0).1, .inl (Md_manies s0).2)), ((ob0 5), .inl (cA 2, (Md_said s0).1, .inl (Md_said s0).2)), ((ob0 6), .inl (cA 2, (Md_marked s0).1, .inl (Md_marked s0).2)), ((ob0 7), .inl (cA 0, (Md_leaders s0).1, .inl (Md_leaders s0).2)), ((ob0 8), .inl (cA 0, (Md_trial s0).1, .inl (Md_trial s0).2)), ((ob0 9), .inl (cA 0, (Md_shown s0).1, .inl (Md_shown s0).2)), ((ob0 10), .inl (cA 0, a24.1, .inl a24.2)), ((ob0 11), .inl (cA 0, a26.1, .inl a26.2)), ((ob0 12), .inl (cA 0, (Md_pushedFeatures s0).1, .inl (Md_pushedFeatures s0).2)), ((ob0 13), .inl (cA 0, (Md_pushedParts s0).1, .inl (Md_pushedParts s0).2)), ((ob0 14), .inl (cA 0, (Md_touched s0).1, .inl (Md_touched s0).2)), ((ob0 15), .inl (cA 0, (Md_reached s0).1, .inl (Md_reached s0).2)), ((ob0 16), .inl (cA 0, (Md_blocks s0).1, .inl (Md_blocks s0).2)), ((ob0 17), .inl (cA 0, (Md_newBlocks s0).1, .inl (Md_newBlocks s0).2)), ((ob0 18), .inl (cA 0, (Md_places s0).1, .inl (Md_places s0).2)), ((ad0 0), .inl (cA 0, (Md_written s0).1, .inl (Md_written s0).2)), ((ad0 1), .inl (cA 0, (Md_other s0).1, .inl (Md_other s0).2))]) F 11 rfl e_a26 b_a26 rfl d_Md_makeOf_83 ?_
      refine x_aload_n F d_Md_makeOf_84 0 rfl rfl ?_
      refine x_dup F d_Md_makeOf_85 rfl ?_
      refine x_get F ck_Md hin_Md 0 13 rfl (by decide) kw_647 rfl rfl d_Md_makeOf_86 ?_
      refine x_iconst (v := (1 : Int32)) F d_Md_makeOf_89 (by decide) ?_
      refine x_iadd F d_Md_makeOf_90 ?_
      refine x_put (ws' := [((ob0 0), .inr (8, [.ref (ob0 1), .ref (ob0 2), .ref (ob0 3), .ref (ob0 4), .ref (ob0 5), .ref (ob0 6), .ref (ob0 7), .ref (ob0 8), .ref (ob0 9), .int (Md_end s0), .int (Md_nodes s0), .ref (ob0 10), .ref (ob0 11), .int ((Md_fields s0) + (1 : Int32)), .ref (ob0 12), .ref (ob0 13), .int (Md_pushed s0), .ref (ob0 14), .int (Md_touches s0), .ref (ob0 15), .ref (ob0 16), .ref (ob0 17), .ref (ob0 18), .ref (ad0 0), .ref (ad0 1), .int (Md_length s0)])), ((ob0 1), .inl (cA 1, (Md_kinds s0).1, .inl (Md_kinds s0).2)), ((ob0 2), .inl (cA 0, (Md_values s0).1, .inl (Md_values s0).2)), ((ob0 3), .inl (cA 0, (Md_firsts s0).1, .inl (Md_firsts s0).2)), ((ob0 4), .inl (cA 0, (Md_manies s0).1, .inl (Md_manies s0).2)), ((ob0 5), .inl (cA 2, (Md_said s0).1, .inl (Md_said s0).2)), ((ob0 6), .inl (cA 2, (Md_marked s0).1, .inl (Md_marked s0).2)), ((ob0 7), .inl (cA 0, (Md_leaders s0).1, .inl (Md_leaders s0).2)), ((ob0 8), .inl (cA 0, (Md_trial s0).1, .inl (Md_trial s0).2)), ((ob0 9), .inl (cA 0, (Md_shown s0).1, .inl (Md_shown s0).2)), ((ob0 10), .inl (cA 0, a24.1, .inl a24.2)), ((ob0 11), .inl (cA 0, a26.1, .inl a26.2)), ((ob0 12), .inl (cA 0, (Md_pushedFeatures s0).1, .inl (Md_pushedFeatures s0).2)), ((ob0 13), .inl (cA 0, (Md_pushedParts s0).1, .inl (Md_pushedParts s0).2)), ((ob0 14), .inl (cA 0, (Md_touched s0).1, .inl (Md_touched s0).2)), ((ob0 15), .inl (cA 0, (Md_reached s0).1, .inl (Md_reached s0).2)), ((ob0 16), .inl (cA 0, (Md_blocks s0).1, .inl (Md_blocks s0).2)), ((ob0 17), .inl (cA 0, (Md_newBlocks s0).1, .inl (Md_newBlocks s0).2)), ((ob0 18), .inl (cA 0, (Md_places s0).1, .inl (Md_places s0).2)), ((ad0 0), .inl (cA 0, (Md_written s0).1, .inl (Md_written s0).2)), ((ad0 1), .inl (cA 0, (Md_other s0).1, .inl (Md_other s0).2))]) F ck_Md hin_Md 0 13 rfl (by decide) kw_647 rfl rfl rfl rfl (Nat.le_of_ble_eq_true rfl) rfl d_Md_makeOf_91 ?_
      refine x_iinc (v := (x4 + 1)) (lv' := [(4, .int (x4 + 1)), (0, .ref (ob0 0)), (1, .int y1), (2, .int y2), (3, .int y3)]) F d_Md_makeOf_94 4 rfl rfl (by decide) rfl ?_
      refine x_goto F 43 d_Md_makeOf_97 (by decide) ?_
      refine x_sub [0, 1, 2, 3, 4, 5, 6, 7, 8, 9, 10, 11, 12, 13, 14, 15, 16, 17, 18, 19, 20] (by decide) ?_ (x_lv [1, 2, 3, 4, 0] ?_ (ih (x4 + 1) ((Md_kinds s0), (Md_values s0), (Md_firsts s0), (Md_manies s0), (Md_said s0), (Md_marked s0), (Md_leaders s0), (Md_trial s0), (Md_shown s0), (Md_end s0), (Md_nodes s0), a24, a26, ((Md_fields s0) + (1 : Int32)), (Md_pushedFeatures s0), (Md_pushedParts s0), (Md_pushed s0), (Md_touched s0), (Md_touches s0), (Md_reached s0), (Md_blocks s0), (Md_newBlocks s0), (Md_places s0), (Md_written s0), (Md_other s0), (Md_length s0)) ad0 _ _ out k hm (by omega) (by omega) (fun ad => x_cs (by omega) (by omega) (KX ad))))
      · rfl
      · rfl
set_option maxHeartbeats 4000000 in
set_option maxRecDepth 100000 in
theorem c_Md_makeOf (l : Launch) (D : va_G) (cA : Nat → ClassId) (n : Nat) (ob0 ad0 : Nat → Nat) (s0 : S_Md) (p0 : Int32) (p1 : Int32) (out : Int32 × S_Md) (k : KC) (hm : m_Md_makeOf n s0 p0 p1 = some (out, k)) : XM l D cA y_Md_makeOf b_Md_makeOf 5 (some FieldType.int) 2 44 [.ref (ob0 0), .int p0, .int p1] ((w_Md cA ob0 ad0  s0)) k (fun _ => some (.int (out.1))) (fun ad => (w_Md cA ob0 ad  (out.2))) := by
  refine x_met (cc := b_Md_makeOf) (nL := 5) (ret := (some FieldType.int)) R_Md (by decide) (Nat.le_of_ble_eq_true rfl) rfl (fun X F I E => ?_)
  unfold m_Md_makeOf at hm
  refine x_nf2 (ws' := [((ob0 0), .inr (8, [.ref (ob0 1), .ref (ob0 2), .ref (ob0 3), .ref (ob0 4), .ref (ob0 5), .ref (ob0 6), .ref (ob0 7), .ref (ob0 8), .ref (ob0 9), .int (Md_end s0), .int (Md_nodes s0), .ref (ob0 10), .ref (ob0 11), .int (Md_fields s0), .ref (ob0 12), .ref (ob0 13), .int (Md_pushed s0), .ref (ob0 14), .int (Md_touches s0), .ref (ob0 15), .ref (ob0 16), .ref (ob0 17), .ref (ob0 18), .ref (ad0 0), .ref (ad0 1), .int (Md_length s0)])), ((ob0 1), .inl (cA 1, (Md_kinds s0).1, .inl (Md_kinds s0).2)), ((ob0 2), .inl (cA 0, (Md_values s0).1, .inl (Md_values s0).2)), ((ob0 3), .inl (cA 0, (Md_firsts s0).1, .inl (Md_firsts s0).2)), ((ob0 4), .inl (cA 0, (Md_manies s0).1, .inl (Md_manies s0).2)), ((ob0 5), .inl (cA 2, (Md_said s0).1, .inl (Md_said s0).2)), ((ob0 6), .inl (cA 2, (Md_marked s0).1, .inl (Md_marked s0).2)), ((ob0 7), .inl (cA 0, (Md_leaders s0).1, .inl (Md_leaders s0).2)), ((ob0 8), .inl (cA 0, (Md_trial s0).1, .inl (Md_trial s0).2)), ((ob0 9), .inl (cA 0, (Md_shown s0).1, .inl (Md_shown s0).2)), ((ob0 10), .inl (cA 0, (Md_features s0).1, .inl (Md_features s0).2)), ((ob0 11), .inl (cA 0, (Md_parts s0).1, .inl (Md_parts s0).2)), ((ob0 12), .inl (cA 0, (Md_pushedFeatures s0).1, .inl (Md_pushedFeatures s0).2)), ((ob0 13), .inl (cA 0, (Md_pushedParts s0).1, .inl (Md_pushedParts s0).2)), ((ob0 14), .inl (cA 0, (Md_touched s0).1, .inl (Md_touched s0).2)), ((ob0 15), .inl (cA 0, (Md_reached s0).1, .inl (Md_reached s0).2)), ((ob0 16), .inl (cA 0, (Md_blocks s0).1, .inl (Md_blocks s0).2)), ((ob0 17), .inl (cA 0, (Md_newBlocks s0).1, .inl (Md_newBlocks s0).2)), ((ob0 18), .inl (cA 0, (Md_places s0).1, .inl (Md_places s0).2)), ((ad0 0), .inl (cA 0, (Md_written s0).1, .inl (Md_written s0).2)), ((ad0 1), .inl (cA 0, (Md_other s0).1, .inl (Md_other s0).2))]) (lv' := [(0, .ref (ob0 0)), (1, .int p0), (2, .int p1)]) rfl rfl ?_
  refine x_aload_n F d_Md_makeOf_0 0 rfl rfl ?_
  refine x_get F ck_Md hin_Md 0 13 rfl (by decide) kw_647 rfl rfl d_Md_makeOf_1 ?_
  refine x_aload_n F d_Md_makeOf_4 0 rfl rfl ?_
  refine x_get F ck_Md hin_Md 0 16 rfl (by decide) kw_650 rfl rfl d_Md_makeOf_5 ?_
  refine x_iadd F d_Md_makeOf_8 ?_
  refine x_ldc (v := (65536 : Int32)) F kw_633 d_Md_makeOf_9 ?_
  refine x_icmp_le F 17 d_Md_makeOf_11 (by decide) (fun c14 => ?_) (fun c14 => ?_)
  · replace hm := xm_t hm c14
    refine x_aload_n F d_Md_makeOf_17 0 rfl rfl ?_
    refine x_iload_n F d_Md_makeOf_18 1 rfl rfl ?_
    refine x_iload_n F d_Md_makeOf_19 2 rfl rfl ?_
    replace hm := xm_b_some hm
    obtain ⟨o15, k16, k17, h18, hm, c_o15, d_o15⟩ := hm
    refine x_callV (n := 2) (C := R_Md) (wr := []) F (c_Md_make l D cA n ob0 ad0 s0 p0 p1 o15 k16 h18) kw_722 kw_719 kw_721 kw_18 kw_47 ⟨rfl, by decide, by decide, by decide +kernel⟩ rfl (by decide) (by decide) (ci := 8) rfl rfl 0 rfl [0, 1, 2, 3, 4, 5, 6, 7, 8, 9, 10, 11, 12, 13, 14, 15, 16, 17, 18, 19, 20] [] rfl rfl (by decide) (by decide) (by decide) rfl (Nat.le_of_ble_eq_true rfl) (by omega) (by omega) d_Md_makeOf_20 (fun ad19 => ?_)
    refine x_nf (ws' := [((ob0 0), .inr (8, [.ref (ob0 1), .ref (ob0 2), .ref (ob0 3), .ref (ob0 4), .ref (ob0 5), .ref (ob0 6), .ref (ob0 7), .ref (ob0 8), .ref (ob0 9), .int (Md_end (o15.2)), .int (Md_nodes (o15.2)), .ref (ob0 10), .ref (ob0 11), .int (Md_fields (o15.2)), .ref (ob0 12), .ref (ob0 13), .int (Md_pushed (o15.2)), .ref (ob0 14), .int (Md_touches (o15.2)), .ref (ob0 15), .ref (ob0 16), .ref (ob0 17), .ref (ob0 18), .ref (ad19 0), .ref (ad19 1), .int (Md_length (o15.2))])), ((ob0 1), .inl (cA 1, (Md_kinds (o15.2)).1, .inl (Md_kinds (o15.2)).2)), ((ob0 2), .inl (cA 0, (Md_values (o15.2)).1, .inl (Md_values (o15.2)).2)), ((ob0 3), .inl (cA 0, (Md_firsts (o15.2)).1, .inl (Md_firsts (o15.2)).2)), ((ob0 4), .inl (cA 0, (Md_manies (o15.2)).1, .inl (Md_manies (o15.2)).2)), ((ob0 5), .inl (cA 2, (Md_said (o15.2)).1, .inl (Md_said (o15.2)).2)), ((ob0 6), .inl (cA 2, (Md_marked (o15.2)).1, .inl (Md_marked (o15.2)).2)), ((ob0 7), .inl (cA 0, (Md_leaders (o15.2)).1, .inl (Md_leaders (o15.2)).2)), ((ob0 8), .inl (cA 0, (Md_trial (o15.2)).1, .inl (Md_trial (o15.2)).2)), ((ob0 9), .inl (cA 0, (Md_shown (o15.2)).1, .inl (Md_shown (o15.2)).2)), ((ob0 10), .inl (cA 0, (Md_features (o15.2)).1, .inl (Md_features (o15.2)).2)), ((ob0 11), .inl (cA 0, (Md_parts (o15.2)).1, .inl (Md_parts (o15.2)).2)), ((ob0 12), .inl (cA 0, (Md_pushedFeatures (o15.2)).1, .inl (Md_pushedFeatures (o15.2)).2)), ((ob0 13), .inl (cA 0, (Md_pushedParts (o15.2)).1, .inl (Md_pushedParts (o15.2)).2)), ((ob0 14), .inl (cA 0, (Md_touched (o15.2)).1, .inl (Md_touched (o15.2)).2)), ((ob0 15), .inl (cA 0, (Md_reached (o15.2)).1, .inl (Md_reached (o15.2)).2)), ((ob0 16), .inl (cA 0, (Md_blocks (o15.2)).1, .inl (Md_blocks (o15.2)).2)), ((ob0 17), .inl (cA 0, (Md_newBlocks (o15.2)).1, .inl (Md_newBlocks (o15.2)).2)), ((ob0 18), .inl (cA 0, (Md_places (o15.2)).1, .inl (Md_places (o15.2)).2)), ((ad19 0), .inl (cA 0, (Md_written (o15.2)).1, .inl (Md_written (o15.2)).2)), ((ad19 1), .inl (cA 0, (Md_other (o15.2)).1, .inl (Md_other (o15.2)).2))]) (st' := [.int (o15.1)]) rfl rfl ?_
    refine x_istore_n (lv' := [(3, .int (o15.1)), (0, .ref (ob0 0)), (1, .int p0), (2, .int p1)]) F d_Md_makeOf_23 rfl (by decide) rfl ?_
    refine x_iload_n F d_Md_makeOf_24 0 rfl rfl ?_
    refine x_if_ge F 30 d_Md_makeOf_25 (by decide) (fun c20 => ?_) (fun c20 => ?_)
    · replace hm := xm_t hm c20
      refine x_aload_n F d_Md_makeOf_30 1 rfl rfl ?_
      refine x_get F ck_Md hin_Md 0 3 rfl (by decide) kw_637 rfl rfl d_Md_makeOf_31 ?_
      refine x_iload_n F d_Md_makeOf_34 0 rfl rfl ?_
      refine x_aload_n F d_Md_makeOf_35 1 rfl rfl ?_
      refine x_get F ck_Md hin_Md 0 16 rfl (by decide) kw_650 rfl rfl d_Md_makeOf_36 ?_
      replace hm := xm_wr_some hm
      obtain ⟨a21, e_a21, b_a21, hm⟩ := hm
      refine x_iast (x := (Md_manies (o15.2))) (x' := a21) (ws' := [((ob0 0), .inr (8, [.ref (ob0 1), .ref (ob0 2), .ref (ob0 3), .ref (ob0 4), .ref (ob0 5), .ref (ob0 6), .ref (ob0 7), .ref (ob0 8), .ref (ob0 9), .int (Md_end (o15.2)), .int (Md_nodes (o15.2)), .ref (ob0 10), .ref (ob0 11), .int (Md_fields (o15.2)), .ref (ob0 12), .ref (ob0 13), .int (Md_pushed (o15.2)), .ref (ob0 14), .int (Md_touches (o15.2)), .ref (ob0 15), .ref (ob0 16), .ref (ob0 17), .ref (ob0 18), .ref (ad19 0), .ref (ad19 1), .int (Md_length (o15.2))])), ((ob0 1), .inl (cA 1, (Md_kinds (o15.2)).1, .inl (Md_kinds (o15.2)).2)), ((ob0 2), .inl (cA 0, (Md_values (o15.2)).1, .inl (Md_values (o15.2)).2)), ((ob0 3), .inl (cA 0, (Md_firsts (o15.2)).1, .inl (Md_firsts (o15.2)).2)), ((ob0 4), .inl (cA 0, a21.1, .inl a21.2)), ((ob0 5), .inl (cA 2, (Md_said (o15.2)).1, .inl (Md_said (o15.2)).2)), ((ob0 6), .inl (cA 2, (Md_marked (o15.2)).1, .inl (Md_marked (o15.2)).2)), ((ob0 7), .inl (cA 0, (Md_leaders (o15.2)).1, .inl (Md_leaders (o15.2)).2)), ((ob0 8), .inl (cA 0, (Md_trial (o15.2)).1, .inl (Md_trial (o15.2)).2)), ((ob0 9), .inl (cA 0, (Md_shown (o15.2)).1, .inl (Md_shown (o15.2)).2)), ((ob0 10), .inl (cA 0, (Md_features (o15.2)).1, .inl (Md_features (o15.2)).2)), ((ob0 11), .inl (cA 0, (Md_parts (o15.2)).1, .inl (Md_parts (o15.2)).2)), ((ob0 12), .inl (cA 0, (Md_pushedFeatures (o15.2)).1, .inl (Md_pushedFeatures (o15.2)).2)), ((ob0 13), .inl (cA 0, (Md_pushedParts (o15.2)).1, .inl (Md_pushedParts (o15.2)).2)), ((ob0 14), .inl (cA 0, (Md_touched (o15.2)).1, .inl (Md_touched (o15.2)).2)), ((ob0 15), .inl (cA 0, (Md_reached (o15.2)).1, .inl (Md_reached (o15.2)).2)), ((ob0 16), .inl (cA 0, (Md_blocks (o15.2)).1, .inl (Md_blocks (o15.2)).2)), ((ob0 17), .inl (cA 0, (Md_newBlocks (o15.2)).1, .inl (Md_newBlocks (o15.2)).2)), ((ob0 18), .inl (cA 0, (Md_places (o15.2)).1, .inl (Md_places (o15.2)).2)), ((ad19 0), .inl (cA 0, (Md_written (o15.2)).1, .inl (Md_written (o15.2)).2)), ((ad19 1), .inl (cA 0, (Md_other (o15.2)).1, .inl (Md_other (o15.2)).2))]) F 4 rfl e_a21 b_a21 rfl d_Md_makeOf_39 ?_
      refine x_iconst (v := (0 : Int32)) F d_Md_makeOf_40 (by decide) ?_
      refine x_istore (lv' := [(4, .int (0 : Int32)), (3, .int (o15.1)), (0, .ref (ob0 0)), (1, .int p0), (2, .int p1)]) F d_Md_makeOf_41 (by decide) rfl ?_
      replace hm := xm_b_some hm
      obtain ⟨o27, k28, k29, h30, hm, c_o27, d_o27⟩ := hm
      refine x_sub [0, 1, 2, 3, 4, 5, 6, 7, 8, 9, 10, 11, 12, 13, 14, 15, 16, 17, 18, 19, 20] (by decide) ?_ (x_lv [2, 3, 4, 1, 0] ?_ (wl_Md_makeOf_43 F n ob0 p0 p1 (o15.1)  n (0 : Int32) ((Md_kinds (o15.2)), (Md_values (o15.2)), (Md_firsts (o15.2)), a21, (Md_said (o15.2)), (Md_marked (o15.2)), (Md_leaders (o15.2)), (Md_trial (o15.2)), (Md_shown (o15.2)), (Md_end (o15.2)), (Md_nodes (o15.2)), (Md_features (o15.2)), (Md_parts (o15.2)), (Md_fields (o15.2)), (Md_pushedFeatures (o15.2)), (Md_pushedParts (o15.2)), (Md_pushed (o15.2)), (Md_touched (o15.2)), (Md_touches (o15.2)), (Md_reached (o15.2)), (Md_blocks (o15.2)), (Md_newBlocks (o15.2)), (Md_places (o15.2)), (Md_written (o15.2)), (Md_other (o15.2)), (Md_length (o15.2))) ad19 _ _ o27 k28 h30 (by omega) (by omega) (fun ad31 => ?_)))
      · rfl
      · rfl
      refine x_nf2 (ws' := [((ob0 0), .inr (8, [.ref (ob0 1), .ref (ob0 2), .ref (ob0 3), .ref (ob0 4), .ref (ob0 5), .ref (ob0 6), .ref (ob0 7), .ref (ob0 8), .ref (ob0 9), .int (Md_end (o27.2)), .int (Md_nodes (o27.2)), .ref (ob0 10), .ref (ob0 11), .int (Md_fields (o27.2)), .ref (ob0 12), .ref (ob0 13), .int (Md_pushed (o27.2)), .ref (ob0 14), .int (Md_touches (o27.2)), .ref (ob0 15), .ref (ob0 16), .ref (ob0 17), .ref (ob0 18), .ref (ad31 0), .ref (ad31 1), .int (Md_length (o27.2))])), ((ob0 1), .inl (cA 1, (Md_kinds (o27.2)).1, .inl (Md_kinds (o27.2)).2)), ((ob0 2), .inl (cA 0, (Md_values (o27.2)).1, .inl (Md_values (o27.2)).2)), ((ob0 3), .inl (cA 0, (Md_firsts (o27.2)).1, .inl (Md_firsts (o27.2)).2)), ((ob0 4), .inl (cA 0, (Md_manies (o27.2)).1, .inl (Md_manies (o27.2)).2)), ((ob0 5), .inl (cA 2, (Md_said (o27.2)).1, .inl (Md_said (o27.2)).2)), ((ob0 6), .inl (cA 2, (Md_marked (o27.2)).1, .inl (Md_marked (o27.2)).2)), ((ob0 7), .inl (cA 0, (Md_leaders (o27.2)).1, .inl (Md_leaders (o27.2)).2)), ((ob0 8), .inl (cA 0, (Md_trial (o27.2)).1, .inl (Md_trial (o27.2)).2)), ((ob0 9), .inl (cA 0, (Md_shown (o27.2)).1, .inl (Md_shown (o27.2)).2)), ((ob0 10), .inl (cA 0, (Md_features (o27.2)).1, .inl (Md_features (o27.2)).2)), ((ob0 11), .inl (cA 0, (Md_parts (o27.2)).1, .inl (Md_parts (o27.2)).2)), ((ob0 12), .inl (cA 0, (Md_pushedFeatures (o27.2)).1, .inl (Md_pushedFeatures (o27.2)).2)), ((ob0 13), .inl (cA 0, (Md_pushedParts (o27.2)).1, .inl (Md_pushedParts (o27.2)).2)), ((ob0 14), .inl (cA 0, (Md_touched (o27.2)).1, .inl (Md_touched (o27.2)).2)), ((ob0 15), .inl (cA 0, (Md_reached (o27.2)).1, .inl (Md_reached (o27.2)).2)), ((ob0 16), .inl (cA 0, (Md_blocks (o27.2)).1, .inl (Md_blocks (o27.2)).2)), ((ob0 17), .inl (cA 0, (Md_newBlocks (o27.2)).1, .inl (Md_newBlocks (o27.2)).2)), ((ob0 18), .inl (cA 0, (Md_places (o27.2)).1, .inl (Md_places (o27.2)).2)), ((ad31 0), .inl (cA 0, (Md_written (o27.2)).1, .inl (Md_written (o27.2)).2)), ((ad31 1), .inl (cA 0, (Md_other (o27.2)).1, .inl (Md_other (o27.2)).2))]) (lv' := [(0, .ref (ob0 0)), (1, .int p0), (2, .int p1), (3, .int (o15.1)), (4, .int (o27.1))]) rfl rfl ?_
      refine x_aload_n F d_Md_makeOf_100 0 rfl rfl ?_
      refine x_iconst (v := (0 : Int32)) F d_Md_makeOf_101 (by decide) ?_
      refine x_put (ws' := [((ob0 0), .inr (8, [.ref (ob0 1), .ref (ob0 2), .ref (ob0 3), .ref (ob0 4), .ref (ob0 5), .ref (ob0 6), .ref (ob0 7), .ref (ob0 8), .ref (ob0 9), .int (Md_end (o27.2)), .int (Md_nodes (o27.2)), .ref (ob0 10), .ref (ob0 11), .int (Md_fields (o27.2)), .ref (ob0 12), .ref (ob0 13), .int (0 : Int32), .ref (ob0 14), .int (Md_touches (o27.2)), .ref (ob0 15), .ref (ob0 16), .ref (ob0 17), .ref (ob0 18), .ref (ad31 0), .ref (ad31 1), .int (Md_length (o27.2))])), ((ob0 1), .inl (cA 1, (Md_kinds (o27.2)).1, .inl (Md_kinds (o27.2)).2)), ((ob0 2), .inl (cA 0, (Md_values (o27.2)).1, .inl (Md_values (o27.2)).2)), ((ob0 3), .inl (cA 0, (Md_firsts (o27.2)).1, .inl (Md_firsts (o27.2)).2)), ((ob0 4), .inl (cA 0, (Md_manies (o27.2)).1, .inl (Md_manies (o27.2)).2)), ((ob0 5), .inl (cA 2, (Md_said (o27.2)).1, .inl (Md_said (o27.2)).2)), ((ob0 6), .inl (cA 2, (Md_marked (o27.2)).1, .inl (Md_marked (o27.2)).2)), ((ob0 7), .inl (cA 0, (Md_leaders (o27.2)).1, .inl (Md_leaders (o27.2)).2)), ((ob0 8), .inl (cA 0, (Md_trial (o27.2)).1, .inl (Md_trial (o27.2)).2)), ((ob0 9), .inl (cA 0, (Md_shown (o27.2)).1, .inl (Md_shown (o27.2)).2)), ((ob0 10), .inl (cA 0, (Md_features (o27.2)).1, .inl (Md_features (o27.2)).2)), ((ob0 11), .inl (cA 0, (Md_parts (o27.2)).1, .inl (Md_parts (o27.2)).2)), ((ob0 12), .inl (cA 0, (Md_pushedFeatures (o27.2)).1, .inl (Md_pushedFeatures (o27.2)).2)), ((ob0 13), .inl (cA 0, (Md_pushedParts (o27.2)).1, .inl (Md_pushedParts (o27.2)).2)), ((ob0 14), .inl (cA 0, (Md_touched (o27.2)).1, .inl (Md_touched (o27.2)).2)), ((ob0 15), .inl (cA 0, (Md_reached (o27.2)).1, .inl (Md_reached (o27.2)).2)), ((ob0 16), .inl (cA 0, (Md_blocks (o27.2)).1, .inl (Md_blocks (o27.2)).2)), ((ob0 17), .inl (cA 0, (Md_newBlocks (o27.2)).1, .inl (Md_newBlocks (o27.2)).2)), ((ob0 18), .inl (cA 0, (Md_places (o27.2)).1, .inl (Md_places (o27.2)).2)), ((ad31 0), .inl (cA 0, (Md_written (o27.2)).1, .inl (Md_written (o27.2)).2)), ((ad31 1), .inl (cA 0, (Md_other (o27.2)).1, .inl (Md_other (o27.2)).2))]) F ck_Md hin_Md 0 16 rfl (by decide) kw_650 rfl rfl rfl rfl (Nat.le_of_ble_eq_true rfl) rfl d_Md_makeOf_102 ?_
      refine x_iload_n F d_Md_makeOf_105 3 rfl rfl ?_
      replace hm := xm_p_some hm
      obtain ⟨eo, c_o, d_o⟩ := hm
      subst eo
      refine x_sub [0, 1, 2, 3, 4, 5, 6, 7, 8, 9, 10, 11, 12, 13, 14, 15, 16, 17, 18, 19, 20] (by decide) ?_ (xe_i E ad31 (by omega) (by omega) rfl (xz_i _) d_Md_makeOf_106)
      rfl
    · replace hm := xm_f hm c20
      refine x_iload_n F d_Md_makeOf_28 0 rfl rfl ?_
      replace hm := xm_p_some hm
      obtain ⟨eo, c_o, d_o⟩ := hm
      subst eo
      refine x_sub [0, 1, 2, 3, 4, 5, 6, 7, 8, 9, 10, 11, 12, 13, 14, 15, 16, 17, 18, 19, 20] (by decide) ?_ (xe_i E ad19 (by omega) (by omega) rfl (xz_i _) d_Md_makeOf_29)
      rfl
  · replace hm := xm_f hm c14
    refine x_bipush (v := (-2 : Int32)) F d_Md_makeOf_14 (by decide) ?_
    replace hm := xm_p_some hm
    obtain ⟨eo, c_o, d_o⟩ := hm
    subst eo
    refine x_sub [0, 1, 2, 3, 4, 5, 6, 7, 8, 9, 10, 11, 12, 13, 14, 15, 16, 17, 18, 19, 20] (by decide) ?_ (xe_i E ad0 (by omega) (by omega) rfl (xz_i _) d_Md_makeOf_16)
    rfl

noncomputable def m_Md_record (n : Nat) (s0 : S_Md) (p0 : Int32) : MO (Int32 × S_Md) := (if p0 < 0 then (xm_p ((-1 : Int32), s0)) else (if (8192 : Int32) ≤ p0 then (xm_p ((-1 : Int32), s0)) else (if (Md_pushed s0) = 0 then (xm_p ((-1 : Int32), s0)) else (xm_b (m_Md_makeOf n s0 (3 : Int32) p0) (fun o12 => (xm_p ((o12.1), (o12.2))))))))
set_option maxHeartbeats 4000000 in
set_option maxRecDepth 100000 in
theorem c_Md_record (l : Launch) (D : va_G) (cA : Nat → ClassId) (n : Nat) (ob0 ad0 : Nat → Nat) (s0 : S_Md) (p0 : Int32) (out : Int32 × S_Md) (k : KC) (hm : m_Md_record n s0 p0 = some (out, k)) : XM l D cA y_Md_record b_Md_record 2 (some FieldType.int) 3 68 [.ref (ob0 0), .int p0] ((w_Md cA ob0 ad0  s0)) k (fun _ => some (.int (out.1))) (fun ad => (w_Md cA ob0 ad  (out.2))) := by
  refine x_met (cc := b_Md_record) (nL := 2) (ret := (some FieldType.int)) R_Md (by decide) (Nat.le_of_ble_eq_true rfl) rfl (fun X F I E => ?_)
  unfold m_Md_record at hm
  refine x_nf2 (ws' := [((ob0 0), .inr (8, [.ref (ob0 1), .ref (ob0 2), .ref (ob0 3), .ref (ob0 4), .ref (ob0 5), .ref (ob0 6), .ref (ob0 7), .ref (ob0 8), .ref (ob0 9), .int (Md_end s0), .int (Md_nodes s0), .ref (ob0 10), .ref (ob0 11), .int (Md_fields s0), .ref (ob0 12), .ref (ob0 13), .int (Md_pushed s0), .ref (ob0 14), .int (Md_touches s0), .ref (ob0 15), .ref (ob0 16), .ref (ob0 17), .ref (ob0 18), .ref (ad0 0), .ref (ad0 1), .int (Md_length s0)])), ((ob0 1), .inl (cA 1, (Md_kinds s0).1, .inl (Md_kinds s0).2)), ((ob0 2), .inl (cA 0, (Md_values s0).1, .inl (Md_values s0).2)), ((ob0 3), .inl (cA 0, (Md_firsts s0).1, .inl (Md_firsts s0).2)), ((ob0 4), .inl (cA 0, (Md_manies s0).1, .inl (Md_manies s0).2)), ((ob0 5), .inl (cA 2, (Md_said s0).1, .inl (Md_said s0).2)), ((ob0 6), .inl (cA 2, (Md_marked s0).1, .inl (Md_marked s0).2)), ((ob0 7), .inl (cA 0, (Md_leaders s0).1, .inl (Md_leaders s0).2)), ((ob0 8), .inl (cA 0, (Md_trial s0).1, .inl (Md_trial s0).2)), ((ob0 9), .inl (cA 0, (Md_shown s0).1, .inl (Md_shown s0).2)), ((ob0 10), .inl (cA 0, (Md_features s0).1, .inl (Md_features s0).2)), ((ob0 11), .inl (cA 0, (Md_parts s0).1, .inl (Md_parts s0).2)), ((ob0 12), .inl (cA 0, (Md_pushedFeatures s0).1, .inl (Md_pushedFeatures s0).2)), ((ob0 13), .inl (cA 0, (Md_pushedParts s0).1, .inl (Md_pushedParts s0).2)), ((ob0 14), .inl (cA 0, (Md_touched s0).1, .inl (Md_touched s0).2)), ((ob0 15), .inl (cA 0, (Md_reached s0).1, .inl (Md_reached s0).2)), ((ob0 16), .inl (cA 0, (Md_blocks s0).1, .inl (Md_blocks s0).2)), ((ob0 17), .inl (cA 0, (Md_newBlocks s0).1, .inl (Md_newBlocks s0).2)), ((ob0 18), .inl (cA 0, (Md_places s0).1, .inl (Md_places s0).2)), ((ad0 0), .inl (cA 0, (Md_written s0).1, .inl (Md_written s0).2)), ((ad0 1), .inl (cA 0, (Md_other s0).1, .inl (Md_other s0).2))]) (lv' := [(0, .ref (ob0 0)), (1, .int p0)]) rfl rfl ?_
  refine x_iload_n F d_Md_record_0 1 rfl rfl ?_
  refine x_if_lt F 18 d_Md_record_1 (by decide) (fun c9 => ?_) (fun c9 => ?_)
  · replace hm := xm_t hm c9
    refine x_iconst (v := (-1 : Int32)) F d_Md_record_18 (by decide) ?_
    refine x_goto F 28 d_Md_record_19 (by decide) ?_
    replace hm := xm_p_some hm
    obtain ⟨eo, c_o, d_o⟩ := hm
    subst eo
    refine x_sub [0, 1, 2, 3, 4, 5, 6, 7, 8, 9, 10, 11, 12, 13, 14, 15, 16, 17, 18, 19, 20] (by decide) ?_ (xe_i E ad0 (by omega) (by omega) rfl (xz_i _) d_Md_record_28)
    rfl
  · replace hm := xm_f hm c9
    refine x_iload_n F d_Md_record_4 1 rfl rfl ?_
    refine x_sipush (v := (8192 : Int32)) F d_Md_record_5 (by decide) ?_
    refine x_icmp_ge F 18 d_Md_record_8 (by decide) (fun c10 => ?_) (fun c10 => ?_)
    · replace hm := xm_t hm c10
      refine x_iconst (v := (-1 : Int32)) F d_Md_record_18 (by decide) ?_
      refine x_goto F 28 d_Md_record_19 (by decide) ?_
      replace hm := xm_p_some hm
      obtain ⟨eo, c_o, d_o⟩ := hm
      subst eo
      refine x_sub [0, 1, 2, 3, 4, 5, 6, 7, 8, 9, 10, 11, 12, 13, 14, 15, 16, 17, 18, 19, 20] (by decide) ?_ (xe_i E ad0 (by omega) (by omega) rfl (xz_i _) d_Md_record_28)
      rfl
    · replace hm := xm_f hm c10
      refine x_aload_n F d_Md_record_11 0 rfl rfl ?_
      refine x_get F ck_Md hin_Md 0 16 rfl (by decide) kw_650 rfl rfl d_Md_record_12 ?_
      refine x_if_ne F 22 d_Md_record_15 (by decide) (fun c11 => ?_) (fun c11 => ?_)
      · replace hm := xm_f hm c11
        refine x_aload_n F d_Md_record_22 0 rfl rfl ?_
        refine x_iconst (v := (3 : Int32)) F d_Md_record_23 (by decide) ?_
        refine x_iload_n F d_Md_record_24 1 rfl rfl ?_
        replace hm := xm_b_some hm
        obtain ⟨o12, k13, k14, h15, hm, c_o12, d_o12⟩ := hm
        refine x_callV (n := 2) (C := R_Md) (wr := []) F (c_Md_makeOf l D cA n ob0 ad0 s0 (3 : Int32) p0 o12 k13 h15) kw_753 kw_750 kw_752 kw_21 kw_47 ⟨rfl, by decide, by decide, by decide +kernel⟩ rfl (by decide) (by decide) (ci := 8) rfl rfl 0 rfl [0, 1, 2, 3, 4, 5, 6, 7, 8, 9, 10, 11, 12, 13, 14, 15, 16, 17, 18, 19, 20] [] rfl rfl (by decide) (by decide) (by decide) rfl (Nat.le_of_ble_eq_true rfl) (by omega) (by omega) d_Md_record_25 (fun ad16 => ?_)
        refine x_nf (ws' := [((ob0 0), .inr (8, [.ref (ob0 1), .ref (ob0 2), .ref (ob0 3), .ref (ob0 4), .ref (ob0 5), .ref (ob0 6), .ref (ob0 7), .ref (ob0 8), .ref (ob0 9), .int (Md_end (o12.2)), .int (Md_nodes (o12.2)), .ref (ob0 10), .ref (ob0 11), .int (Md_fields (o12.2)), .ref (ob0 12), .ref (ob0 13), .int (Md_pushed (o12.2)), .ref (ob0 14), .int (Md_touches (o12.2)), .ref (ob0 15), .ref (ob0 16), .ref (ob0 17), .ref (ob0 18), .ref (ad16 0), .ref (ad16 1), .int (Md_length (o12.2))])), ((ob0 1), .inl (cA 1, (Md_kinds (o12.2)).1, .inl (Md_kinds (o12.2)).2)), ((ob0 2), .inl (cA 0, (Md_values (o12.2)).1, .inl (Md_values (o12.2)).2)), ((ob0 3), .inl (cA 0, (Md_firsts (o12.2)).1, .inl (Md_firsts (o12.2)).2)), ((ob0 4), .inl (cA 0, (Md_manies (o12.2)).1, .inl (Md_manies (o12.2)).2)), ((ob0 5), .inl (cA 2, (Md_said (o12.2)).1, .inl (Md_said (o12.2)).2)), ((ob0 6), .inl (cA 2, (Md_marked (o12.2)).1, .inl (Md_marked (o12.2)).2)), ((ob0 7), .inl (cA 0, (Md_leaders (o12.2)).1, .inl (Md_leaders (o12.2)).2)), ((ob0 8), .inl (cA 0, (Md_trial (o12.2)).1, .inl (Md_trial (o12.2)).2)), ((ob0 9), .inl (cA 0, (Md_shown (o12.2)).1, .inl (Md_shown (o12.2)).2)), ((ob0 10), .inl (cA 0, (Md_features (o12.2)).1, .inl (Md_features (o12.2)).2)), ((ob0 11), .inl (cA 0, (Md_parts (o12.2)).1, .inl (Md_parts (o12.2)).2)), ((ob0 12), .inl (cA 0, (Md_pushedFeatures (o12.2)).1, .inl (Md_pushedFeatures (o12.2)).2)), ((ob0 13), .inl (cA 0, (Md_pushedParts (o12.2)).1, .inl (Md_pushedParts (o12.2)).2)), ((ob0 14), .inl (cA 0, (Md_touched (o12.2)).1, .inl (Md_touched (o12.2)).2)), ((ob0 15), .inl (cA 0, (Md_reached (o12.2)).1, .inl (Md_reached (o12.2)).2)), ((ob0 16), .inl (cA 0, (Md_blocks (o12.2)).1, .inl (Md_blocks (o12.2)).2)), ((ob0 17), .inl (cA 0, (Md_newBlocks (o12.2)).1, .inl (Md_newBlocks (o12.2)).2)), ((ob0 18), .inl (cA 0, (Md_places (o12.2)).1, .inl (Md_places (o12.2)).2)), ((ad16 0), .inl (cA 0, (Md_written (o12.2)).1, .inl (Md_written (o12.2)).2)), ((ad16 1), .inl (cA 0, (Md_other (o12.2)).1, .inl (Md_other (o12.2)).2))]) (st' := [.int (o12.1)]) rfl rfl ?_
        replace hm := xm_p_some hm
        obtain ⟨eo, c_o, d_o⟩ := hm
        subst eo
        refine x_sub [0, 1, 2, 3, 4, 5, 6, 7, 8, 9, 10, 11, 12, 13, 14, 15, 16, 17, 18, 19, 20] (by decide) ?_ (xe_i E ad16 (by omega) (by omega) rfl (xz_i _) d_Md_record_28)
        rfl
      · replace hm := xm_t hm c11
        refine x_iconst (v := (-1 : Int32)) F d_Md_record_18 (by decide) ?_
        refine x_goto F 28 d_Md_record_19 (by decide) ?_
        replace hm := xm_p_some hm
        obtain ⟨eo, c_o, d_o⟩ := hm
        subst eo
        refine x_sub [0, 1, 2, 3, 4, 5, 6, 7, 8, 9, 10, 11, 12, 13, 14, 15, 16, 17, 18, 19, 20] (by decide) ?_ (xe_i E ad0 (by omega) (by omega) rfl (xz_i _) d_Md_record_28)
        rfl

noncomputable def m_Md_thing (n : Nat) (s0 : S_Md) (p0 : Int32) : MO (Int32 × S_Md) := (if 0 ≤ p0 then (xm_b (m_Md_makeOf n s0 (4 : Int32) p0) (fun o8 => (xm_p ((o8.1), (o8.2))))) else (xm_p ((-1 : Int32), s0)))
set_option maxHeartbeats 4000000 in
set_option maxRecDepth 100000 in
theorem c_Md_thing (l : Launch) (D : va_G) (cA : Nat → ClassId) (n : Nat) (ob0 ad0 : Nat → Nat) (s0 : S_Md) (p0 : Int32) (out : Int32 × S_Md) (k : KC) (hm : m_Md_thing n s0 p0 = some (out, k)) : XM l D cA y_Md_thing b_Md_thing 2 (some FieldType.int) 3 68 [.ref (ob0 0), .int p0] ((w_Md cA ob0 ad0  s0)) k (fun _ => some (.int (out.1))) (fun ad => (w_Md cA ob0 ad  (out.2))) := by
  refine x_met (cc := b_Md_thing) (nL := 2) (ret := (some FieldType.int)) R_Md (by decide) (Nat.le_of_ble_eq_true rfl) rfl (fun X F I E => ?_)
  unfold m_Md_thing at hm
  refine x_nf2 (ws' := [((ob0 0), .inr (8, [.ref (ob0 1), .ref (ob0 2), .ref (ob0 3), .ref (ob0 4), .ref (ob0 5), .ref (ob0 6), .ref (ob0 7), .ref (ob0 8), .ref (ob0 9), .int (Md_end s0), .int (Md_nodes s0), .ref (ob0 10), .ref (ob0 11), .int (Md_fields s0), .ref (ob0 12), .ref (ob0 13), .int (Md_pushed s0), .ref (ob0 14), .int (Md_touches s0), .ref (ob0 15), .ref (ob0 16), .ref (ob0 17), .ref (ob0 18), .ref (ad0 0), .ref (ad0 1), .int (Md_length s0)])), ((ob0 1), .inl (cA 1, (Md_kinds s0).1, .inl (Md_kinds s0).2)), ((ob0 2), .inl (cA 0, (Md_values s0).1, .inl (Md_values s0).2)), ((ob0 3), .inl (cA 0, (Md_firsts s0).1, .inl (Md_firsts s0).2)), ((ob0 4), .inl (cA 0, (Md_manies s0).1, .inl (Md_manies s0).2)), ((ob0 5), .inl (cA 2, (Md_said s0).1, .inl (Md_said s0).2)), ((ob0 6), .inl (cA 2, (Md_marked s0).1, .inl (Md_marked s0).2)), ((ob0 7), .inl (cA 0, (Md_leaders s0).1, .inl (Md_leaders s0).2)), ((ob0 8), .inl (cA 0, (Md_trial s0).1, .inl (Md_trial s0).2)), ((ob0 9), .inl (cA 0, (Md_shown s0).1, .inl (Md_shown s0).2)), ((ob0 10), .inl (cA 0, (Md_features s0).1, .inl (Md_features s0).2)), ((ob0 11), .inl (cA 0, (Md_parts s0).1, .inl (Md_parts s0).2)), ((ob0 12), .inl (cA 0, (Md_pushedFeatures s0).1, .inl (Md_pushedFeatures s0).2)), ((ob0 13), .inl (cA 0, (Md_pushedParts s0).1, .inl (Md_pushedParts s0).2)), ((ob0 14), .inl (cA 0, (Md_touched s0).1, .inl (Md_touched s0).2)), ((ob0 15), .inl (cA 0, (Md_reached s0).1, .inl (Md_reached s0).2)), ((ob0 16), .inl (cA 0, (Md_blocks s0).1, .inl (Md_blocks s0).2)), ((ob0 17), .inl (cA 0, (Md_newBlocks s0).1, .inl (Md_newBlocks s0).2)), ((ob0 18), .inl (cA 0, (Md_places s0).1, .inl (Md_places s0).2)), ((ad0 0), .inl (cA 0, (Md_written s0).1, .inl (Md_written s0).2)), ((ad0 1), .inl (cA 0, (Md_other s0).1, .inl (Md_other s0).2))]) (lv' := [(0, .ref (ob0 0)), (1, .int p0)]) rfl rfl ?_
  refine x_iload_n F d_Md_thing_0 1 rfl rfl ?_
  refine x_if_ge F 8 d_Md_thing_1 (by decide) (fun c7 => ?_) (fun c7 => ?_)
  · replace hm := xm_t hm c7
    refine x_aload_n F d_Md_thing_8 0 rfl rfl ?_
    refine x_iconst (v := (4 : Int32)) F d_Md_thing_9 (by decide) ?_
    refine x_iload_n F d_Md_thing_10 1 rfl rfl ?_
    replace hm := xm_b_some hm
    obtain ⟨o8, k9, k10, h11, hm, c_o8, d_o8⟩ := hm
    refine x_callV (n := 2) (C := R_Md) (wr := []) F (c_Md_makeOf l D cA n ob0 ad0 s0 (4 : Int32) p0 o8 k9 h11) kw_753 kw_750 kw_752 kw_21 kw_47 ⟨rfl, by decide, by decide, by decide +kernel⟩ rfl (by decide) (by decide) (ci := 8) rfl rfl 0 rfl [0, 1, 2, 3, 4, 5, 6, 7, 8, 9, 10, 11, 12, 13, 14, 15, 16, 17, 18, 19, 20] [] rfl rfl (by decide) (by decide) (by decide) rfl (Nat.le_of_ble_eq_true rfl) (by omega) (by omega) d_Md_thing_11 (fun ad12 => ?_)
    refine x_nf (ws' := [((ob0 0), .inr (8, [.ref (ob0 1), .ref (ob0 2), .ref (ob0 3), .ref (ob0 4), .ref (ob0 5), .ref (ob0 6), .ref (ob0 7), .ref (ob0 8), .ref (ob0 9), .int (Md_end (o8.2)), .int (Md_nodes (o8.2)), .ref (ob0 10), .ref (ob0 11), .int (Md_fields (o8.2)), .ref (ob0 12), .ref (ob0 13), .int (Md_pushed (o8.2)), .ref (ob0 14), .int (Md_touches (o8.2)), .ref (ob0 15), .ref (ob0 16), .ref (ob0 17), .ref (ob0 18), .ref (ad12 0), .ref (ad12 1), .int (Md_length (o8.2))])), ((ob0 1), .inl (cA 1, (Md_kinds (o8.2)).1, .inl (Md_kinds (o8.2)).2)), ((ob0 2), .inl (cA 0, (Md_values (o8.2)).1, .inl (Md_values (o8.2)).2)), ((ob0 3), .inl (cA 0, (Md_firsts (o8.2)).1, .inl (Md_firsts (o8.2)).2)), ((ob0 4), .inl (cA 0, (Md_manies (o8.2)).1, .inl (Md_manies (o8.2)).2)), ((ob0 5), .inl (cA 2, (Md_said (o8.2)).1, .inl (Md_said (o8.2)).2)), ((ob0 6), .inl (cA 2, (Md_marked (o8.2)).1, .inl (Md_marked (o8.2)).2)), ((ob0 7), .inl (cA 0, (Md_leaders (o8.2)).1, .inl (Md_leaders (o8.2)).2)), ((ob0 8), .inl (cA 0, (Md_trial (o8.2)).1, .inl (Md_trial (o8.2)).2)), ((ob0 9), .inl (cA 0, (Md_shown (o8.2)).1, .inl (Md_shown (o8.2)).2)), ((ob0 10), .inl (cA 0, (Md_features (o8.2)).1, .inl (Md_features (o8.2)).2)), ((ob0 11), .inl (cA 0, (Md_parts (o8.2)).1, .inl (Md_parts (o8.2)).2)), ((ob0 12), .inl (cA 0, (Md_pushedFeatures (o8.2)).1, .inl (Md_pushedFeatures (o8.2)).2)), ((ob0 13), .inl (cA 0, (Md_pushedParts (o8.2)).1, .inl (Md_pushedParts (o8.2)).2)), ((ob0 14), .inl (cA 0, (Md_touched (o8.2)).1, .inl (Md_touched (o8.2)).2)), ((ob0 15), .inl (cA 0, (Md_reached (o8.2)).1, .inl (Md_reached (o8.2)).2)), ((ob0 16), .inl (cA 0, (Md_blocks (o8.2)).1, .inl (Md_blocks (o8.2)).2)), ((ob0 17), .inl (cA 0, (Md_newBlocks (o8.2)).1, .inl (Md_newBlocks (o8.2)).2)), ((ob0 18), .inl (cA 0, (Md_places (o8.2)).1, .inl (Md_places (o8.2)).2)), ((ad12 0), .inl (cA 0, (Md_written (o8.2)).1, .inl (Md_written (o8.2)).2)), ((ad12 1), .inl (cA 0, (Md_other (o8.2)).1, .inl (Md_other (o8.2)).2))]) (st' := [.int (o8.1)]) rfl rfl ?_
    replace hm := xm_p_some hm
    obtain ⟨eo, c_o, d_o⟩ := hm
    subst eo
    refine x_sub [0, 1, 2, 3, 4, 5, 6, 7, 8, 9, 10, 11, 12, 13, 14, 15, 16, 17, 18, 19, 20] (by decide) ?_ (xe_i E ad12 (by omega) (by omega) rfl (xz_i _) d_Md_thing_14)
    rfl
  · replace hm := xm_f hm c7
    refine x_iconst (v := (-1 : Int32)) F d_Md_thing_4 (by decide) ?_
    refine x_goto F 14 d_Md_thing_5 (by decide) ?_
    replace hm := xm_p_some hm
    obtain ⟨eo, c_o, d_o⟩ := hm
    subst eo
    refine x_sub [0, 1, 2, 3, 4, 5, 6, 7, 8, 9, 10, 11, 12, 13, 14, 15, 16, 17, 18, 19, 20] (by decide) ?_ (xe_i E ad0 (by omega) (by omega) rfl (xz_i _) d_Md_thing_14)
    rfl
