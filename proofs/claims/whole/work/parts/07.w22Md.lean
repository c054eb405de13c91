noncomputable def L_Md_like_28 (y1 : Int32) (y2 : Int32) (y3 : Int32) (n i : Nat) : S_Md → MO (S_Md) := Nat.rec (motive := fun _ => S_Md → MO (S_Md)) (fun _ => none) (fun _ ih s0 => (if y3 ≤ (nI ((Md_other s0)).1) then (xm_p (s0)) else (xm_na ((2 : Int32) * (nI ((Md_other s0)).1)) (fun a52 => (ih ((Md_kinds s0), (Md_values s0), (Md_firsts s0), (Md_manies s0), (Md_said s0), (Md_marked s0), (Md_leaders s0), (Md_trial s0), (Md_shown s0), (Md_end s0), (Md_nodes s0), (Md_features s0), (Md_parts s0), (Md_fields s0), (Md_pushedFeatures s0), (Md_pushedParts s0), (Md_pushed s0), (Md_touched s0), (Md_touches s0), (Md_reached s0), (Md_blocks s0), (Md_newBlocks s0), (Md_places s0), (Md_written s0), a52, (Md_length s0))))))) i
theorem L_Md_like_28_s (y1 : Int32) (y2 : Int32) (y3 : Int32) (n i : Nat) (s0 : S_Md) : L_Md_like_28 y1 y2 y3 n (i + 1) s0 = (if y3 ≤ (nI ((Md_other s0)).1) then (xm_p (s0)) else (xm_na ((2 : Int32) * (nI ((Md_other s0)).1)) (fun a52 => (L_Md_like_28 y1 y2 y3 n i ((Md_kinds s0), (Md_values s0), (Md_firsts s0), (Md_manies s0), (Md_said s0), (Md_marked s0), (Md_leaders s0), (Md_trial s0), (Md_shown s0), (Md_end s0), (Md_nodes s0), (Md_features s0), (Md_parts s0), (Md_fields s0), (Md_pushedFeatures s0), (Md_pushedParts s0), (Md_pushed s0), (Md_touched s0), (Md_touches s0), (Md_reached s0), (Md_blocks s0), (Md_newBlocks s0), (Md_places s0), (Md_written s0), a52, (Md_length s0)))))) := rfl
noncomputable def L_Md_like_90 (y1 : Int32) (y2 : Int32) (y3 : Int32) (s0 : S_Md) (n i : Nat) : Int32 → Int32 → MO (Int32 × Int32) := Nat.rec (motive := fun _ => Int32 → Int32 → MO (Int32 × Int32)) (fun _ _ => none) (fun _ ih x4 x5 => (if y3 ≤ x5 then (xm_p ((x4, x5))) else (if x4 = 0 then (xm_p ((x4, x5))) else (xm_rd (Md_written s0) x5 (fun v72 => (xm_rd (Md_other s0) x5 (fun v73 => (xm_b (if v72 = v73 then (xm_p (1 : Int32)) else (xm_p (0 : Int32))) (fun j74 => (ih j74 (x5 + 1))))))))))) i
theorem L_Md_like_90_s (y1 : Int32) (y2 : Int32) (y3 : Int32) (s0 : S_Md) (n i : Nat) (x4 : Int32) (x5 : Int32) : L_Md_like_90 y1 y2 y3 s0 n (i + 1) x4 x5 = (if y3 ≤ x5 then (xm_p ((x4, x5))) else (if x4 = 0 then (xm_p ((x4, x5))) else (xm_rd (Md_written s0) x5 (fun v72 => (xm_rd (Md_other s0) x5 (fun v73 => (xm_b (if v72 = v73 then (xm_p (1 : Int32)) else (xm_p (0 : Int32))) (fun j74 => (L_Md_like_90 y1 y2 y3 s0 n i j74 (x5 + 1)))))))))) := rfl
noncomputable def m_Md_like (n : Nat) (s0 : S_Md) (p0 : Int32) (p1 : Int32) : MO (Int32 × S_Md) := (xm_b (m_Md_has n s0 p0) (fun o34 => (if o34 = 0 then (xm_p ((0 : Int32), s0)) else (xm_b (m_Md_has n s0 p1) (fun o40 => (if o40 = 0 then (xm_p ((0 : Int32), s0)) else (xm_b (m_Md_write n s0 p0) (fun o46 => (xm_b (L_Md_like_28 p0 p1 (Md_length o46) n n o46) (fun o55 => (xm_cp (Md_written o55) (Md_other o55) (0 : Int32) (0 : Int32) (Md_length o46) (fun a60 => (xm_b (m_Md_write n ((Md_kinds o55), (Md_values o55), (Md_firsts o55), (Md_manies o55), (Md_said o55), (Md_marked o55), (Md_leaders o55), (Md_trial o55), (Md_shown o55), (Md_end o55), (Md_nodes o55), (Md_features o55), (Md_parts o55), (Md_fields o55), (Md_pushedFeatures o55), (Md_pushedParts o55), (Md_pushed o55), (Md_touched o55), (Md_touches o55), (Md_reached o55), (Md_blocks o55), (Md_newBlocks o55), (Md_places o55), (Md_written o55), a60, (Md_length o55)) p1) (fun o61 => (xm_b (if (Md_length o46) = (Md_length o61) then (xm_p (1 : Int32)) else (xm_p (0 : Int32))) (fun j66 => (xm_b (L_Md_like_90 p0 p1 (Md_length o46) o61 n n j66 (0 : Int32)) (fun o79 => (xm_z (o79.1) (xm_p ((o79.1), o61)))))))))))))))))))))
set_option maxHeartbeats 4000000 in
set_option maxRecDepth 100000 in
theorem wl_Md_like_28 {X : XT} {l : Launch} {D : va_G} {cA : Nat → ClassId} {mc ms : Nat} (F : XF X l D cA b_Md_like 6 (some FieldType.boolean) R_Md 4 117 mc ms) (n : Nat) (ob0 : Nat → Nat) (y1 : Int32) (y2 : Int32) (y3 : Int32)   : ∀ (i : Nat) (s0 : S_Md) (ad0 : Nat → Nat) (nc ns : Nat) (out : S_Md) (k : KC), L_Md_like_28 y1 y2 y3 n i s0 = some (out, k) → nc + k.1 ≤ mc → ns + k.2 ≤ ms → (∀ ad : Nat → Nat, XW X 6 ((w_Md cA ob0 ad  out)) (nc + k.1) (ns + k.2) 53 [(0, .ref (ob0 0)), (1, .int y1), (2, .int y2), (3, .int y3)] []) → XW X 6 ((w_Md cA ob0 ad0  s0)) nc ns 28 [(0, .ref (ob0 0)), (1, .int y1), (2, .int y2), (3, .int y3)] [] := by
  intro i
  induction i with
  | zero =>
    intro s0 ad0 nc ns out k hm
    replace hm : (none : MO (S_Md)) = some (out, k) := hm
    cases hm
  | succ i ih =>
    intro s0 ad0 nc ns out k hm hc hs KX
    rw [L_Md_like_28_s] at hm
    refine x_ws (ws' := [((ob0 0), .inr (8, [.ref (ob0 1), .ref (ob0 2), .ref (ob0 3), .ref (ob0 4), .ref (ob0 5), .ref (ob0 6), .ref (ob0 7), .ref (ob0 8), .ref (ob0 9), .int (Md_end s0), .int (Md_nodes s0), .ref (ob0 10), .ref (ob0 11), .int (Md_fields s0), .ref (ob0 12), .ref (ob0 13), .int (Md_pushed s0), .ref (ob0 14), .int (Md_touches s0), .ref (ob0 15), .ref (ob0 16), .ref (ob0 17), .ref (ob0 18), .ref (ad0 0), .ref (ad0 1), .int (Md_length s0)])), ((ob0 1), .inl (cA 1, (Md_kinds s0).1, .inl (Md_kinds s0).2)), ((ob0 2), .inl (cA 0, (Md_values s0).1, .inl (Md_values s0).2)), ((ob0 3), .inl (cA 0, (Md_firsts s0).1, .inl (Md_firsts s0).2)), ((ob0 4), .inl (cA 0, (Md_manies s0).1, .inl (Md_manies s0).2)), ((ob0 5), .inl (cA 2, (Md_said s0).1, .inl (Md_said s0).2)), ((ob0 6), .inl (cA 2, (Md_marked s0).1, .inl (Md_marked s0).2)), ((ob0 7), .inl (cA 0, (Md_leaders s0).1, .inl (Md_leaders s0).2)), ((ob0 8), .inl (cA 0, (Md_trial s0).1, .inl (Md_trial s0).2)), ((ob0 9), .inl (cA 0, (Md_shown s0).1, .inl (Md_shown s0).2)), ((ob0 10), .inl (cA 0, (Md_features s0).1, .inl (Md_features s0).2)), ((ob0 11), .inl (cA 0, (Md_parts s0).1, .inl (Md_parts s0).2)), ((ob0 12), .inl (cA 0, (Md_pushedFeatures s0).1, .inl (Md_pushedFeatures s0).2)), ((ob0 13), .inl (cA 0, (Md_pushedParts s0).1, .inl (Md_pushedParts s0).2)), ((ob0 14), .inl (cA 0, (Md_touched s0).1, .inl (Md_touched s0).2)), ((ob0 15), .inl (cA 0, (Md_reached s0).1, .inl (Md_reached s0).2)), ((ob0 16), .inl (cA 0, (Md_blocks s0).1, .inl (Md_blocks s0).2)), ((ob0 17), .inl (cA 0, (Md_newBlocks s0).1, .inl (Md_newBlocks s0).2)), ((ob0 18), .inl (cA 0, (Md_places s0).1, .inl (Md_places s0).2)), ((ad0 0), .inl (cA 0, (Md_written s0).1, .inl (Md_written s0).2)), ((ad0 1), .inl (cA 0, (Md_other s0).1, .inl (Md_other s0).2))]) rfl ?_
    refine x_aload_n F d_Md_like_28 0 rfl rfl ?_
    refine x_get F ck_Md hin_Md 0 24 rfl (by decide) kw_658 rfl rfl d_Md_like_29 ?_
    refine x_alen (x := (Md_other s0)) F 20 rfl d_Md_like_32 ?_
    refine x_iload_n F d_Md_like_33 3 rfl rfl ?_
    refine x_icmp_ge F 53 d_Md_like_34 (by decide) (fun c51 => ?_) (fun c51 => ?_)
    · replace hm := xm_t hm c51
      replace hm := xm_p_some hm
      obtain ⟨eo, c_o, d_o⟩ := hm
      subst eo
      refine x_sub [0, 1, 2, 3, 4, 5, 6, 7, 8, 9, 10, 11, 12, 13, 14, 15, 16, 17, 18, 19, 20] (by decide) ?_ (x_lv [0, 1, 2, 3] ?_ (x_cs (by omega) (by omega) (KX ad0)))
      · rfl
      · rfl
    · replace hm := xm_f hm c51
      refine x_aload_n F d_Md_like_37 0 rfl rfl ?_
      refine x_iconst (v := (2 : Int32)) F d_Md_like_38 (by decide) ?_
      refine x_aload_n F d_Md_like_39 0 rfl rfl ?_
      refine x_get F ck_Md hin_Md 0 24 rfl (by decide) kw_658 rfl rfl d_Md_like_40 ?_
      refine x_alen (x := (Md_other s0)) F 20 rfl d_Md_like_43 ?_
      refine x_imul F d_Md_like_44 ?_
      replace hm := xm_na_some hm
      obtain ⟨a52, k54, e_a52, n_a52, b_a52, hm, c_a52, d_a52⟩ := hm
      refine x_newa (x := a52) F kw_97 e_a52 n_a52 b_a52 (by omega) (by omega) d_Md_like_45 (fun q_53 => ?_)
      refine x_nf (ws' := [((ob0 0), .inr (8, [.ref (ob0 1), .ref (ob0 2), .ref (ob0 3), .ref (ob0 4), .ref (ob0 5), .ref (ob0 6), .ref (ob0 7), .ref (ob0 8), .ref (ob0 9), .int (Md_end s0), .int (Md_nodes s0), .ref (ob0 10), .ref (ob0 11), .int (Md_fields s0), .ref (ob0 12), .ref (ob0 13), .int (Md_pushed s0), .ref (ob0 14), .int (Md_touches s0), .ref (ob0 15), .ref (ob0 16), .ref (ob0 17), .ref (ob0 18), .ref (ad0 0), .ref (ad0 1), .int (Md_length s0)])), ((ob0 1), .inl (cA 1, (Md_kinds s0).1, .inl (Md_kinds s0).2)), ((ob0 2), .inl (cA 0, (Md_values s0).1, .inl (Md_values s0).2)), ((ob0 3), .inl (cA 0, (Md_firsts s0).1, .inl (Md_firsts s0).2)), ((ob0 4), .inl (cA 0, (Md_manies s0).1, .inl (Md_manies s0).2)), ((ob0 5), .inl (cA 2, (Md_said s0).1, .inl (Md_said s0).2)), ((ob0 6), .inl (cA 2, (Md_marked s0).1, .inl (Md_marked s0).2)), ((ob0 7), .inl (cA 0, (Md_leaders s0).1, .inl (Md_leaders s0).2)), ((ob0 8), .inl (cA 0, (Md_trial s0).1, .inl (Md_trial s0).2)), ((ob0 9), .inl (cA 0, (Md_shown s0).1, .inl (Md_shown s0).2)), ((ob0 10), .inl (cA 0, (Md_features s0).1, .inl (Md_features s0).2)), ((ob0 11), .inl (cA 0, (Md_parts s0).1, .inl (Md_parts s0).2)), ((ob0 12), .inl (cA 0, (Md_pushedFeatures s0).1, .inl (Md_pushedFeatures s0).2)), ((ob0 13), .inl (cA 0, (Md_pushedParts s0).1, .inl (Md_pushedParts s0).2)), ((ob0 14), .inl (cA 0, (Md_touched s0).1, .inl (Md_touched s0).2)), ((ob0 15), .inl (cA 0, (Md_reached s0).1, .inl (Md_reached s0).2)), ((ob0 16), .inl (cA 0, (Md_blocks s0).1, .inl (Md_blocks s0).2)), ((ob0 17), .inl (cA 0, (Md_newBlocks s0).1, .inl (Md_newBlocks s0).2)), ((ob0 18), .inl (cA 0, (Md_places s0).1, .inl (Md_places s0).2)), ((ad0 0), .inl (cA 0, (Md_written s0).1, .inl (Md_written s0).2)), ((ad0 1), .inl (cA 0, (Md_other s0).1, .inl (Md_other s0).2)), (q_53, .inl (cA 0, a52.1, .inl a52.2))]) (st' := [.ref q_53, .ref (ob0 0)]) rfl rfl ?_
      refine x_put (ws' := [((ob0 0), .inr (8, [.ref (ob0 1), .ref (ob0 2), .ref (ob0 3), .ref (ob0 4), .ref (ob0 5), .ref (ob0 6), .ref (ob0 7), .ref (ob0 8), .ref (ob0 9), .int (Md_end s0), .int (Md_nodes s0), .ref (ob0 10), .ref (ob0 11), .int (Md_fields s0), .ref (ob0 12), .ref (ob0 13), .int (Md_pushed s0), .ref (ob0 14), .int (Md_touches s0), .ref (ob0 15), .ref (ob0 16), .ref (ob0 17), .ref (ob0 18), .ref (ad0 0), .ref q_53, .int (Md_length s0)])), ((ob0 1), .inl (cA 1, (Md_kinds s0).1, .inl (Md_kinds s0).2)), ((ob0 2), .inl (cA 0, (Md_values s0).1, .inl (Md_values s0).2)), ((ob0 3), .inl (cA 0, (Md_firsts s0).1, .inl (Md_firsts s0).2)), ((ob0 4), .inl (cA 0, (Md_manies s0).1, .inl (Md_manies s0).2)), ((ob0 5), .inl (cA 2, (Md_said s0).1, .inl (Md_said s0).2)), ((ob0 6), .inl (cA 2, (Md_marked s0).1, .inl (Md_marked s0).2)), ((ob0 7), .inl (cA 0, (Md_leaders s0).1, .inl (Md_leaders s0).2)), ((ob0 8), .inl (cA 0, (Md_trial s0).1, .inl (Md_trial s0).2)), ((ob0 9), .inl (cA 0, (Md_shown s0).1, .inl (Md_shown s0).2)), ((ob0 10), .inl (cA 0, (Md_features s0).1, .inl (Md_features s0).2)), ((ob0 11), .inl (cA 0, (Md_parts s0).1, .inl (Md_parts s0).2)), ((ob0 12), .inl (cA 0, (Md_pushedFeatures s0).1, .inl (Md_pushedFeatures s0).2)), ((ob0 13), .inl (cA 0, (Md_pushedParts s0).1, .inl (Md_pushedParts s0).2)), ((ob0 14), .inl (cA 0, (Md_touched s0).1, .inl (Md_touched s0).2)), ((ob0 15), .inl (cA 0, (Md_reached s0).1, .inl (Md_reached s0).2)), ((ob0 16), .inl (cA 0, (Md_blocks s0).1, .inl (Md_blocks s0).2)), ((ob0 17), .inl (cA 0, (Md_newBlocks s0).1, .inl (Md_newBlocks s0).2)), ((ob0 18), .inl (cA 0, (Md_places s0).1, .inl (Md_places s0).2)), ((ad0 0), .inl (cA 0, (Md_written s0).1, .inl (Md_written s0).2)), ((ad0 1), .inl (cA 0, (Md_other s0).1, .inl (Md_other s0).2)), (q_53, .inl (cA 0, a52.1, .inl a52.2))]) F ck_Md hin_Md 0 24 rfl (by decide) kw_658 rfl rfl rfl rfl (Nat.le_of_ble_eq_true rfl) rfl d_Md_like_47 ?_
      refine x_goto F 28 d_Md_like_50 (by decide) ?_
      refine x_sub [0, 1, 2, 3, 4, 5, 6, 7, 8, 9, 10, 11, 12, 13, 14, 15, 16, 17, 18, 19, 21] (by decide) ?_ (x_lv [0, 1, 2, 3] ?_ (ih ((Md_kinds s0), (Md_values s0), (Md_firsts s0), (Md_manies s0), (Md_said s0), (Md_marked s0), (Md_leaders s0), (Md_trial s0), (Md_shown s0), (Md_end s0), (Md_nodes s0), (Md_features s0), (Md_parts s0), (Md_fields s0), (Md_pushedFeatures s0), (Md_pushedParts s0), (Md_pushed s0), (Md_touched s0), (Md_touches s0), (Md_reached s0), (Md_blocks s0), (Md_newBlocks s0), (Md_places s0), (Md_written s0), a52, (Md_length s0)) (xa [(ad0 0), q_53]) _ _ out k54 hm (by omega) (by omega) (fun ad => x_cs (by omega) (by omega) (KX ad))))
      · rfl
      · rfl
set_option maxHeartbeats 4000000 in
set_option maxRecDepth 100000 in
theorem wl_Md_like_90 {X : XT} {l : Launch} {D : va_G} {cA : Nat → ClassId} {mc ms : Nat} (F : XF X l D cA b_Md_like 6 (some FieldType.boolean) R_Md 4 117 mc ms) (n : Nat) (ob0 : Nat → Nat) (y1 : Int32) (y2 : Int32) (y3 : Int32) (s0 : S_Md)  (ad0 : Nat → Nat) : ∀ (i : Nat) (x4 : Int32) (x5 : Int32)  (nc ns : Nat) (out : Int32 × Int32) (k : KC), L_Md_like_90 y1 y2 y3 s0 n i x4 x5 = some (out, k) → nc + k.1 ≤ mc → ns + k.2 ≤ ms → (∀ ad : Nat → Nat, XW X 6 ((w_Md cA ob0 ad0  s0)) (nc + k.1) (ns + k.2) 131 [(0, .ref (ob0 0)), (1, .int y1), (2, .int y2), (3, .int y3), (4, .int (out.1)), (5, .int (out.2))] []) → XW X 6 ((w_Md cA ob0 ad0  s0)) nc ns 90 [(0, .ref (ob0 0)), (1, .int y1), (2, .int y2), (3, .int y3), (4, .int x4), (5, .int x5)] [] := by
  intro i
  induction i with
  | zero =>
    intro x4 x5  nc ns out k hm
    replace hm : (none : MO (Int32 × Int32)) = some (out, k) := hm
    cases hm
  | succ i ih =>
    intro x4 x5  nc ns out k hm hc hs KX
    rw [L_Md_like_90_s] at hm
    refine x_ws (ws' := [((ob0 0), .inr (8, [.ref (ob0 1), .ref (ob0 2), .ref (ob0 3), .ref (ob0 4), .ref (ob0 5), .ref (ob0 6), .ref (ob0 7), .ref (ob0 8), .ref (ob0 9), .int (Md_end s0), .int (Md_nodes s0), .ref (ob0 10), .ref (ob0 11), .int (Md_fields s0), .ref (ob0 12), .ref (ob0 13), .int (Md_pushed s0), .ref (ob0 14), .int (Md_touches s0), .ref (ob0 15), .ref (ob0 16), .ref (ob0 17), .ref (ob0 18), .ref (ad0 0), .ref (ad0 1), .int (Md_length s0)])), ((ob0 1), .inl (cA 1, (Md_kinds s0).1, .inl (Md_kinds s0).2)), ((ob0 2), .inl (cA 0, (Md_values s0).1, .inl (Md_values s0).2)), ((ob0 3), .inl (cA 0, (Md_firsts s0).1, .inl (Md_firsts s0).2)), ((ob0 4), .inl (cA 0, (Md_manies s0).1, .inl (Md_manies s0).2)), ((ob0 5), .inl (cA 2, (Md_said s0).1, .inl (Md_said s0).2)), ((ob0 6), .inl (cA 2, (Md_marked s0).1, .inl (Md_marked s0).2)), ((ob0 7), .inl (cA 0, (Md_leaders s0).1, .inl (Md_leaders s0).2)), ((ob0 8), .inl (cA 0, (Md_trial s0).1, .inl (Md_trial s0).2)), ((ob0 9), .inl (cA 0, (Md_shown s0).1, .inl (Md_shown s0).2)), ((ob0 10), .inl (cA 0, (Md_features s0).1, .inl (Md_features s0).2)), ((ob0 11), .inl (cA 0, (Md_parts s0).1, .inl (Md_parts s0).2)), ((ob0 12), .inl (cA 0, (Md_pushedFeatures s0).1, .inl (Md_pushedFeatures s0).2)), ((ob0 13), .inl (cA 0, (Md_pushedParts s0).1, .inl (Md_pushedParts s0).2)), ((ob0 14), .inl (cA 0, (Md_touched s0).1, .inl (Md_touched s0).2)), ((ob0 15), .inl (cA 0, (Md_reached s0).1, .inl (Md_reached s0).2)), ((ob0 16), .inl (cA 0, (Md_blocks s0).1, .inl (Md_blocks s0).2)), ((ob0 17), .inl (cA 0, (Md_newBlocks s0).1, .inl (Md_newBlocks s0).2)), ((ob0 18), .inl (cA 0, (Md_places s0).1, .inl (Md_places s0).2)), ((ad0 0), .inl (cA 0, (Md_written s0).1, .inl (Md_written s0).2)), ((ad0 1), .inl (cA 0, (Md_other s0).1, .inl (Md_other s0).2))]) rfl ?_
    refine x_iload F d_Md_like_90 5 rfl ?_
    refine x_iload_n F d_Md_like_92 3 rfl rfl ?_
    refine x_icmp_ge F 131 d_Md_like_93 (by decide) (fun c70 => ?_) (fun c70 => ?_)
    · replace hm := xm_t hm c70
      replace hm := xm_p_some hm
      obtain ⟨eo, c_o, d_o⟩ := hm
      subst eo
      refine x_sub [0, 1, 2, 3, 4, 5, 6, 7, 8, 9, 10, 11, 12, 13, 14, 15, 16, 17, 18, 19, 20] (by decide) ?_ (x_lv [0, 1, 2, 3, 4, 5] ?_ (x_cs (by omega) (by omega) (KX (fun _ => 0))))
      · rfl
      · rfl
    · replace hm := xm_f hm c70
      refine x_iload F d_Md_like_96 4 rfl ?_
      refine x_if_eq F 131 d_Md_like_98 (by decide) (fun c71 => ?_) (fun c71 => ?_)
      · replace hm := xm_t hm c71
        replace hm := xm_p_some hm
        obtain ⟨eo, c_o, d_o⟩ := hm
        subst eo
        refine x_sub [0, 1, 2, 3, 4, 5, 6, 7, 8, 9, 10, 11, 12, 13, 14, 15, 16, 17, 18, 19, 20] (by decide) ?_ (x_lv [0, 1, 2, 3, 4, 5] ?_ (x_cs (by omega) (by omega) (KX (fun _ => 0))))
        · rfl
        · rfl
      · replace hm := xm_f hm c71
        refine x_aload_n F d_Md_like_101 0 rfl rfl ?_
        refine x_get F ck_Md hin_Md 0 23 rfl (by decide) kw_657 rfl rfl d_Md_like_102 ?_
        refine x_iload F d_Md_like_105 5 rfl ?_
        replace hm := xm_rd_some hm
        obtain ⟨v72, e_v72, b_v72, hm⟩ := hm
        refine x_iald (x := (Md_written s0)) F 19 rfl e_v72 b_v72 d_Md_like_107 ?_
        refine x_aload_n F d_Md_like_108 0 rfl rfl ?_
        refine x_get F ck_Md hin_Md 0 24 rfl (by decide) kw_658 rfl rfl d_Md_like_109 ?_
        refine x_iload F d_Md_like_112 5 rfl ?_
        replace hm := xm_rd_some hm
        obtain ⟨v73, e_v73, b_v73, hm⟩ := hm
        refine x_iald (x := (Md_other s0)) F 20 rfl e_v73 b_v73 d_Md_like_114 ?_
        replace hm := xm_b_some hm
        obtain ⟨j74, k75, k76, h77, hm, c_j74, d_j74⟩ := hm
        refine x_mrg (k1 := k75) (M := 123) (v := j74) (st := []) ?_ (fun J => ?_)
        · skip
          refine x_istore (lv' := [(4, .int j74), (0, .ref (ob0 0)), (1, .int y1), (2, .int y2), (3, .int y3), (5, .int x5)]) F d_Md_like_123 (by decide) rfl ?_
          refine x_iinc (v := (x5 + 1)) (lv' := [(5, .int (x5 + 1)), (4, .int j74), (0, .ref (ob0 0)), (1, .int y1), (2, .int y2), (3, .int y3)]) F d_Md_like_125 5 rfl rfl (by decide) rfl ?_
          refine x_goto F 90 d_Md_like_128 (by decide) ?_
          refine x_sub [0, 1, 2, 3, 4, 5, 6, 7, 8, 9, 10, 11, 12, 13, 14, 15, 16, 17, 18, 19, 20] (by decide) ?_ (x_lv [2, 3, 4, 5, 1, 0] ?_ (ih j74 (x5 + 1)  _ _ out k76 hm (by omega) (by omega) (fun ad => x_cs (by omega) (by omega) (KX ad))))
          · rfl
          · rfl
        · replace hm := h77
          refine x_icmp_ne F 122 d_Md_like_115 (by decide) (fun c78 => ?_) (fun c78 => ?_)
          · replace hm := xm_f hm c78
            refine x_iconst (v := (0 : Int32)) F d_Md_like_122 (by decide) ?_
            replace hm := xm_p_some hm
            obtain ⟨eo, c_o, d_o⟩ := hm
            subst eo
            exact x_cs (by omega) (by omega) J
          · replace hm := xm_t hm c78
            refine x_iconst (v := (1 : Int32)) F d_Md_like_118 (by decide) ?_
            refine x_goto F 123 d_Md_like_119 (by decide) ?_
            replace hm := xm_p_some hm
            obtain ⟨eo, c_o, d_o⟩ := hm
            subst eo
            exact x_cs (by omega) (by omega) J
set_option maxHeartbeats 4000000 in
set_option maxRecDepth 100000 in
theorem c_Md_like (l : Launch) (D : va_G) (cA : Nat → ClassId) (n : Nat) (ob0 ad0 : Nat → Nat) (s0 : S_Md) (p0 : Int32) (p1 : Int32) (out : Int32 × S_Md) (k : KC) (hm : m_Md_like n s0 p0 p1 = some (out, k)) : XM l D cA y_Md_like b_Md_like 6 (some FieldType.boolean) 4 117 [.ref (ob0 0), .int p0, .int p1] ((w_Md cA ob0 ad0  s0)) k (fun _ => some (.int (out.1))) (fun ad => (w_Md cA ob0 ad  (out.2))) := by
  refine x_met (cc := b_Md_like) (nL := 6) (ret := (some FieldType.boolean)) R_Md (by decide) (Nat.le_of_ble_eq_true rfl) rfl (fun X F I E => ?_)
  unfold m_Md_like at hm
  refine x_nf2 (ws' := [((ob0 0), .inr (8, [.ref (ob0 1), .ref (ob0 2), .ref (ob0 3), .ref (ob0 4), .ref (ob0 5), .ref (ob0 6), .ref (ob0 7), .ref (ob0 8), .ref (ob0 9), .int (Md_end s0), .int (Md_nodes s0), .ref (ob0 10), .ref (ob0 11), .int (Md_fields s0), .ref (ob0 12), .ref (ob0 13), .int (Md_pushed s0), .ref (ob0 14), .int (Md_touches s0), .ref (ob0 15), .ref (ob0 16), .ref (ob0 17), .ref (ob0 18), .ref (ad0 0), .ref (ad0 1), .int (Md_length s0)])), ((ob0 1), .inl (cA 1, (Md_kinds s0).1, .inl (Md_kinds s0).2)), ((ob0 2), .inl (cA 0, (Md_values s0).1, .inl (Md_values s0).2)), ((ob0 3), .inl (cA 0, (Md_firsts s0).1, .inl (Md_firsts s0).2)), ((ob0 4), .inl (cA 0, (Md_manies s0).1, .inl (Md_manies s0).2)), ((ob0 5), .inl (cA 2, (Md_said s0).1, .inl (Md_said s0).2)), ((ob0 6), .inl (cA 2, (Md_marked s0).1, .inl (Md_marked s0).2)), ((ob0 7), .inl (cA 0, (Md_leaders s0).1, .inl (Md_leaders s0).2)), ((ob0 8), .inl (cA 0, (Md_trial s0).1, .inl (Md_trial s0).2)), ((ob0 9), .inl (cA 0, (Md_shown s0).1, .inl (Md_shown s0).2)), ((ob0 10), .inl (cA 0, (Md_features s0).1, .inl (Md_features s0).2)), ((ob0 11), .inl (cA 0, (Md_parts s0).1, .inl (Md_parts s0).2)), ((ob0 12), .inl (cA 0, (Md_pushedFeatures s0).1, .inl (Md_pushedFeatures s0).2)), ((ob0 13), .inl (cA 0, (Md_pushedParts s0).1, .inl (Md_pushedParts s0).2)), ((ob0 14), .inl (cA 0, (Md_touched s0).1, .inl (Md_touched s0).2)), ((ob0 15), .inl (cA 0, (Md_reached s0).1, .inl (Md_reached s0).2)), ((ob0 16), .inl (cA 0, (Md_blocks s0).1, .inl (Md_blocks s0).2)), ((ob0 17), .inl (cA 0, (Md_newBlocks s0).1, .inl (Md_newBlocks s0).2)), ((ob0 18), .inl (cA 0, (Md_places s0).1, .inl (Md_places s0).2)), ((ad0 0), .inl (cA 0, (Md_written s0).1, .inl (Md_written s0).2)), ((ad0 1), .inl (cA 0, (Md_other s0).1, .inl (Md_other s0).2))]) (lv' := [(0, .ref (ob0 0)), (1, .int p0), (2, .int p1)]) rfl rfl ?_
  refine x_aload_n F d_Md_like_0 0 rfl rfl ?_
  refine x_iload_n F d_Md_like_1 1 rfl rfl ?_
  replace hm := xm_b_some hm
  obtain ⟨o34, k35, k36, h37, hm, c_o34, d_o34⟩ := hm
  refine x_callV (n := 1) (C := R_Md) (wr := []) F (c_Md_has l D cA n ob0 ad0 s0 p0 o34 k35 h37) kw_742 kw_739 kw_741 kw_20 kw_47 ⟨rfl, by decide, by decide, by decide +kernel⟩ rfl (by decide) (by decide) (ci := 8) rfl rfl 0 rfl [0, 1, 2, 3, 4, 5, 6, 7, 8, 9, 10, 11, 12, 13, 14, 15, 16, 17, 18, 19, 20] [] rfl rfl (by decide) (by decide) (by decide) rfl (Nat.le_of_ble_eq_true rfl) (by omega) (by omega) d_Md_like_2 (fun ad38 => ?_)
  refine x_nf (ws' := [((ob0 0), .inr (8, [.ref (ob0 1), .ref (ob0 2), .ref (ob0 3), .ref (ob0 4), .ref (ob0 5), .ref (ob0 6), .ref (ob0 7), .ref (ob0 8), .ref (ob0 9), .int (Md_end s0), .int (Md_nodes s0), .ref (ob0 10), .ref (ob0 11), .int (Md_fields s0), .ref (ob0 12), .ref (ob0 13), .int (Md_pushed s0), .ref (ob0 14), .int (Md_touches s0), .ref (ob0 15), .ref (ob0 16), .ref (ob0 17), .ref (ob0 18), .ref (ad0 0), .ref (ad0 1), .int (Md_length s0)])), ((ob0 1), .inl (cA 1, (Md_kinds s0).1, .inl (Md_kinds s0).2)), ((ob0 2), .inl (cA 0, (Md_values s0).1, .inl (Md_values s0).2)), ((ob0 3), .inl (cA 0, (Md_firsts s0).1, .inl (Md_firsts s0).2)), ((ob0 4), .inl (cA 0, (Md_manies s0).1, .inl (Md_manies s0).2)), ((ob0 5), .inl (cA 2, (Md_said s0).1, .inl (Md_said s0).2)), ((ob0 6), .inl (cA 2, (Md_marked s0).1, .inl (Md_marked s0).2)), ((ob0 7), .inl (cA 0, (Md_leaders s0).1, .inl (Md_leaders s0).2)), ((ob0 8), .inl (cA 0, (Md_trial s0).1, .inl (Md_trial s0).2)), ((ob0 9), .inl (cA 0, (Md_shown s0).1, .inl (Md_shown s0).2)), ((ob0 10), .inl (cA 0, (Md_features s0).1, .inl (Md_features s0).2)), ((ob0 11), .inl (cA 0, (Md_parts s0).1, .inl (Md_parts s0).2)), ((ob0 12), .inl (cA 0, (Md_pushedFeatures s0).1, .inl (Md_pushedFeatures s0).2)), ((ob0 13), .inl (cA 0, (Md_pushedParts s0).1, .inl (Md_pushedParts s0).2)), ((ob0 14), .inl (cA 0, (Md_touched s0).1, .inl (Md_touched s0).2)), ((ob0 15), .inl (cA 0, (Md_reached s0).1, .inl (Md_reached s0).2)), ((ob0 16), .inl (cA 0, (Md_blocks s0).1, .inl (Md_blocks s0).2)), ((ob0 17), .inl (cA 0, (Md_newBlocks s0).1, .inl (Md_newBlocks s0).2)), ((ob0 18), .inl (cA 0, (Md_places s0).1, .inl (Md_places s0).2)), ((ad0 0), .inl (cA 0, (Md_written s0).1, .inl (Md_written s0).2)), ((ad0 1), .inl (cA 0, (Md_other s0).1, .inl (Md_other s0).2))]) (st' := [.int o34]) rfl rfl ?_
  refine x_if_eq F 16 d_Md_like_5 (by decide) (fun c39 => ?_) (fun c39 => ?_)
  · replace hm := xm_t hm c39
    refine x_iconst (v := (0 : Int32)) F d_Md_like_16 (by decide) ?_
    replace hm := xm_p_some hm
    obtain ⟨eo, c_o, d_o⟩ := hm
    subst eo
    refine x_sub [0, 1, 2, 3, 4, 5, 6, 7, 8, 9, 10, 11, 12, 13, 14, 15, 16, 17, 18, 19, 20] (by decide) ?_ (xe_i E ad0 (by omega) (by omega) rfl xz_0 d_Md_like_17)
    rfl
  · replace hm := xm_f hm c39
    refine x_aload_n F d_Md_like_8 0 rfl rfl ?_
    refine x_iload_n F d_Md_like_9 2 rfl rfl ?_
    replace hm := xm_b_some hm
    obtain ⟨o40, k41, k42, h43, hm, c_o40, d_o40⟩ := hm
    refine x_callV (n := 1) (C := R_Md) (wr := []) F (c_Md_has l D cA n ob0 ad0 s0 p1 o40 k41 h43) kw_742 kw_739 kw_741 kw_20 kw_47 ⟨rfl, by decide, by decide, by decide +kernel⟩ rfl (by decide) (by decide) (ci := 8) rfl rfl 0 rfl [0, 1, 2, 3, 4, 5, 6, 7, 8, 9, 10, 11, 12, 13, 14, 15, 16, 17, 18, 19, 20] [] rfl rfl (by decide) (by decide) (by decide) rfl (Nat.le_of_ble_eq_true rfl) (by omega) (by omega) d_Md_like_10 (fun ad44 => ?_)
    refine x_nf (ws' := [((ob0 0), .inr (8, [.ref (ob0 1), .ref (ob0 2), .ref (ob0 3), .ref (ob0 4), .ref (ob0 5), .ref (ob0 6), .ref (ob0 7), .ref (ob0 8), .ref (ob0 9), .int (Md_end s0), .int (Md_nodes s0), .ref (ob0 10), .ref (ob0 11), .int (Md_fields s0), .ref (ob0 12), .ref (ob0 13), .int (Md_pushed s0), .ref (ob0 14), .int (Md_touches s0), .ref (ob0 15), .ref (ob0 16), .ref (ob0 17), .ref (ob0 18), .ref (ad0 0), .ref (ad0 1), .int (Md_length s0)])), ((ob0 1), .inl (cA 1, (Md_kinds s0).1, .inl (Md_kinds s0).2)), ((ob0 2), .inl (cA 0, (Md_values s0).1, .inl (Md_values s0).2)), ((ob0 3), .inl (cA 0, (Md_firsts s0).1, .inl (Md_firsts s0).2)), ((ob0 4), .inl (cA 0, (Md_manies s0).1, .inl (Md_manies s0).2)), ((ob0 5), .inl (cA 2, (Md_said s0).1, .inl (Md_said s0).2)), ((ob0 6), .inl (cA 2, (Md_marked s0).1, .inl (Md_marked s0).2)), ((ob0 7), .inl (cA 0, (Md_leaders s0).1, .inl (Md_leaders s0).2)), ((ob0 8), .inl (cA 0, (Md_trial s0).1, .inl (Md_trial s0).2)), ((ob0 9), .inl (cA 0, (Md_shown s0).1, .inl (Md_shown s0).2)), ((ob0 10), .inl (cA 0, (Md_features s0).1, .inl (Md_features s0).2)), ((ob0 11), .inl (cA 0, (Md_parts s0).1, .inl (Md_parts s0).2)), ((ob0 12), .inl (cA 0, (Md_pushedFeatures s0).1, .inl (Md_pushedFeatures s0).2)), ((ob0 13), .inl (cA 0, (Md_pushedParts s0).1, .inl (Md_pushedParts s0).2)), ((ob0 14), .inl (cA 0, (Md_touched s0).1, .inl (Md_touched s0).2)), ((ob0 15), .inl (cA 0, (Md_reached s0).1, .inl (Md_reached s0).2)), ((ob0 16), .inl (cA 0, (Md_blocks s0).1, .inl (Md_blocks s0).2)), ((ob0 17), .inl (cA 0, (Md_newBlocks s0).1, .inl (Md_newBlocks s0).2)), ((ob0 18), .inl (cA 0, (Md_places s0).1, .inl (Md_places s0).2)), ((ad0 0), .inl (cA 0, (Md_written s0).1, .inl (Md_written s0).2)), ((ad0 1), .inl (cA 0, (Md_other s0).1, .inl (Md_other s0).2))]) (st' := [.int o40]) rfl rfl ?_
    refine x_if_ne F 18 d_Md_like_13 (by decide) (fun c45 => ?_) (fun c45 => ?_)
    · replace hm := xm_f hm c45
      refine x_aload_n F d_Md_like_18 0 rfl rfl ?_
      refine x_iload_n F d_Md_like_19 1 rfl rfl ?_
      replace hm := xm_b_some hm
      obtain ⟨o46, k47, k48, h49, hm, c_o46, d_o46⟩ := hm
      refine x_callV (n := 1) (C := R_Md) (wr := []) F (c_Md_write l D cA n ob0 ad0 s0 p0 o46 k47 h49) kw_840 kw_837 kw_839 kw_31 kw_47 ⟨rfl, by decide, by decide, by decide +kernel⟩ rfl (by decide) (by decide) (ci := 8) rfl rfl 0 rfl [0, 1, 2, 3, 4, 5, 6, 7, 8, 9, 10, 11, 12, 13, 14, 15, 16, 17, 18, 19, 20] [] rfl rfl (by decide) (by decide) (by decide) rfl (Nat.le_of_ble_eq_true rfl) (by omega) (by omega) d_Md_like_20 (fun ad50 => ?_)
      refine x_nf (ws' := [((ob0 0), .inr (8, [.ref (ob0 1), .ref (ob0 2), .ref (ob0 3), .ref (ob0 4), .ref (ob0 5), .ref (ob0 6), .ref (ob0 7), .ref (ob0 8), .ref (ob0 9), .int (Md_end o46), .int (Md_nodes o46), .ref (ob0 10), .ref (ob0 11), .int (Md_fields o46), .ref (ob0 12), .ref (ob0 13), .int (Md_pushed o46), .ref (ob0 14), .int (Md_touches o46), .ref (ob0 15), .ref (ob0 16), .ref (ob0 17), .ref (ob0 18), .ref (ad50 0), .ref (ad50 1), .int (Md_length o46)])), ((ob0 1), .inl (cA 1, (Md_kinds o46).1, .inl (Md_kinds o46).2)), ((ob0 2), .inl (cA 0, (Md_values o46).1, .inl (Md_values o46).2)), ((ob0 3), .inl (cA 0, (Md_firsts o46).1, .inl (Md_firsts o46).2)), ((ob0 4), .inl (cA 0, (Md_manies o46).1, .inl (Md_manies o46).2)), ((ob0 5), .inl (cA 2, (Md_said o46).1, .inl (Md_said o46).2)), ((ob0 6), .inl (cA 2, (Md_marked o46).1, .inl (Md_marked o46).2)), ((ob0 7), .inl (cA 0, (Md_leaders o46).1, .inl (Md_leaders o46).2)), ((ob0 8), .inl (cA 0, (Md_trial o46).1, .inl (Md_trial o46).2)), ((ob0 9), .inl (cA 0, (Md_shown o46).1, .inl (Md_shown o46).2)), ((ob0 10), .inl (cA 0, (Md_features o46).1, .inl (Md_features o46).2)), ((ob0 11), .inl (cA 0, (Md_parts o46).1, .inl (Md_parts o46).2)), ((ob0 12), .inl (cA 0, (Md_pushedFeatures o46).1, .inl (Md_pushedFeatures o46).2)), ((ob0 13), .inl (cA 0, (Md_pushedParts o46).1, .inl (Md_pushedParts o46).2)), ((ob0 14), .inl (cA 0, (Md_touched o46).1, .inl (Md_touched o46).2)), ((ob0 15), .inl (cA 0, (Md_reached o46).1, .inl (Md_reached o46).2)), ((ob0 16), .inl (cA 0, (Md_blocks o46).1, .inl (Md_blocks o46).2)), ((ob0 17), .inl (cA 0, (Md_newBlocks o46).1, .inl (Md_newBlocks o46).2)), ((ob0 18), .inl (cA 0, (Md_places o46).1, .inl (Md_places o46).2)), ((ad50 0), .inl (cA 0, (Md_written o46).1, .inl (Md_written o46).2)), ((ad50 1), .inl (cA 0, (Md_other o46).1, .inl (Md_other o46).2))]) (st' := []) rfl rfl ?_
      refine x_aload_n F d_Md_like_23 0 rfl rfl ?_
      refine x_get F ck_Md hin_Md 0 25 rfl (by decide) kw_659 rfl rfl d_Md_like_24 ?_
      refine x_istore_n (lv' := [(3, .int (Md_length o46)), (0, .ref (ob0 0)), (1, .int p0), (2, .int p1)]) F d_Md_like_27 rfl (by decide) rfl ?_
      replace hm := xm_b_some hm
      obtain ⟨o55, k56, k57, h58, hm, c_o55, d_o55⟩ := hm
      refine x_sub [0, 1, 2, 3, 4, 5, 6, 7, 8, 9, 10, 11, 12, 13, 14, 15, 16, 17, 18, 19, 20] (by decide) ?_ (x_lv [1, 2, 3, 0] ?_ (wl_Md_like_28 F n ob0 p0 p1 (Md_length o46)  n o46 ad50 _ _ o55 k56 h58 (by omega) (by omega) (fun ad59 => ?_)))
      · rfl
      · rfl
      refine x_nf2 (ws' := [((ob0 0), .inr (8, [.ref (ob0 1), .ref (ob0 2), .ref (ob0 3), .ref (ob0 4), .ref (ob0 5), .ref (ob0 6), .ref (ob0 7), .ref (ob0 8), .ref (ob0 9), .int (Md_end o55), .int (Md_nodes o55), .ref (ob0 10), .ref (ob0 11), .int (Md_fields o55), .ref (ob0 12), .ref (ob0 13), .int (Md_pushed o55), .ref (ob0 14), .int (Md_touches o55), .ref (ob0 15), .ref (ob0 16), .ref (ob0 17), .ref (ob0 18), .ref (ad59 0), .ref (ad59 1), .int (Md_length o55)])), ((ob0 1), .inl (cA 1, (Md_kinds o55).1, .inl (Md_kinds o55).2)), ((ob0 2), .inl (cA 0, (Md_values o55).1, .inl (Md_values o55).2)), ((ob0 3), .inl (cA 0, (Md_firsts o55).1, .inl (Md_firsts o55).2)), ((ob0 4), .inl (cA 0, (Md_manies o55).1, .inl (Md_manies o55).2)), ((ob0 5), .inl (cA 2, (Md_said o55).1, .inl (Md_said o55).2)), ((ob0 6), .inl (cA 2, (Md_marked o55).1, .inl (Md_marked o55).2)), ((ob0 7), .inl (cA 0, (Md_leaders o55).1, .inl (Md_leaders o55).2)), ((ob0 8), .inl (cA 0, (Md_trial o55).1, .inl (Md_trial o55).2)), ((ob0 9), .inl (cA 0, (Md_shown o55).1, .inl (Md_shown o55).2)), ((ob0 10), .inl (cA 0, (Md_features o55).1, .inl (Md_features o55).2)), ((ob0 11), .inl (cA 0, (Md_parts o55).1, .inl (Md_parts o55).2)), ((ob0 12), .inl (cA 0, (Md_pushedFeatures o55).1, .inl (Md_pushedFeatures o55).2)), ((ob0 13), .inl (cA 0, (Md_pushedParts o55).1, .inl (Md_pushedParts o55).2)), ((ob0 14), .inl (cA 0, (Md_touched o55).1, .inl (Md_touched o55).2)), ((ob0 15), .inl (cA 0, (Md_reached o55).1, .inl (Md_reached o55).2)), ((ob0 16), .inl (cA 0, (Md_blocks o55).1, .inl (Md_blocks o55).2)), ((ob0 17), .inl (cA 0, (Md_newBlocks o55).1, .inl (Md_newBlocks o55).2)), ((ob0 18), .inl (cA 0, (Md_places o55).1, .inl (Md_places o55).2)), ((ad59 0), .inl (cA 0, (Md_written o55).1, .inl (Md_written o55).2)), ((ad59 1), .inl (cA 0, (Md_other o55).1, .inl (Md_other o55).2))]) (lv' := [(0, .ref (ob0 0)), (1, .int p0), (2, .int p1), (3, .int (Md_length o46))]) rfl rfl ?_
      refine x_aload_n F d_Md_like_53 0 rfl rfl ?_
      refine x_get F ck_Md hin_Md 0 23 rfl (by decide) kw_657 rfl rfl d_Md_like_54 ?_
      refine x_iconst (v := (0 : Int32)) F d_Md_like_57 (by decide) ?_
      refine x_aload_n F d_Md_like_58 0 rfl rfl ?_
      refine x_get F ck_Md hin_Md 0 24 rfl (by decide) kw_658 rfl rfl d_Md_like_59 ?_
      refine x_iconst (v := (0 : Int32)) F d_Md_like_62 (by decide) ?_
      refine x_iload_n F d_Md_like_63 3 rfl rfl ?_
      replace hm := xm_cp_some hm
      obtain ⟨a60, e_a60, b_a60, hm⟩ := hm
      refine x_copy (x := (Md_written o55)) (y := (Md_other o55)) (y' := a60) (ws' := [((ob0 0), .inr (8, [.ref (ob0 1), .ref (ob0 2), .ref (ob0 3), .ref (ob0 4), .ref (ob0 5), .ref (ob0 6), .ref (ob0 7), .ref (ob0 8), .ref (ob0 9), .int (Md_end o55), .int (Md_nodes o55), .ref (ob0 10), .ref (ob0 11), .int (Md_fields o55), .ref (ob0 12), .ref (ob0 13), .int (Md_pushed o55), .ref (ob0 14), .int (Md_touches o55), .ref (ob0 15), .ref (ob0 16), .ref (ob0 17), .ref (ob0 18), .ref (ad59 0), .ref (ad59 1), .int (Md_length o55)])), ((ob0 1), .inl (cA 1, (Md_kinds o55).1, .inl (Md_kinds o55).2)), ((ob0 2), .inl (cA 0, (Md_values o55).1, .inl (Md_values o55).2)), ((ob0 3), .inl (cA 0, (Md_firsts o55).1, .inl (Md_firsts o55).2)), ((ob0 4), .inl (cA 0, (Md_manies o55).1, .inl (Md_manies o55).2)), ((ob0 5), .inl (cA 2, (Md_said o55).1, .inl (Md_said o55).2)), ((ob0 6), .inl (cA 2, (Md_marked o55).1, .inl (Md_marked o55).2)), ((ob0 7), .inl (cA 0, (Md_leaders o55).1, .inl (Md_leaders o55).2)), ((ob0 8), .inl (cA 0, (Md_trial o55).1, .inl (Md_trial o55).2)), ((ob0 9), .inl (cA 0, (Md_shown o55).1, .inl (Md_shown o55).2)), ((ob0 10), .inl (cA 0, (Md_features o55).1, .inl (Md_features o55).2)), ((ob0 11), .inl (cA 0, (Md_parts o55).1, .inl (Md_parts o55).2)), ((ob0 12), .inl (cA 0, (Md_pushedFeatures o55).1, .inl (Md_pushedFeatures o55).2)), ((ob0 13), .inl (cA 0, (Md_pushedParts o55).1, .inl (Md_pushedParts o55).2)), ((ob0 14), .inl (cA 0, (Md_touched o55).1, .inl (Md_touched o55).2)), ((ob0 15), .inl (cA 0, (Md_reached o55).1, .inl (Md_reached o55).2)), ((ob0 16), .inl (cA 0, (Md_blocks o55).1, .inl (Md_blocks o55).2)), ((ob0 17), .inl (cA 0, (Md_newBlocks o55).1, .inl (Md_newBlocks o55).2)), ((ob0 18), .inl (cA 0, (Md_places o55).1, .inl (Md_places o55).2)), ((ad59 0), .inl (cA 0, (Md_written o55).1, .inl (Md_written o55).2)), ((ad59 1), .inl (cA 0, a60.1, .inl a60.2))]) F kt_766_28 kt_332_4 kt_331_5 kw_50 19 20 rfl rfl b_a60 e_a60 rfl (by decide) (Nat.le_of_ble_eq_true rfl) d_Md_like_64 ?_
      refine x_aload_n F d_Md_like_67 0 rfl rfl ?_
      refine x_iload_n F d_Md_like_68 2 rfl rfl ?_
      replace hm := xm_b_some hm
      obtain ⟨o61, k62, k63, h64, hm, c_o61, d_o61⟩ := hm
      refine x_callV (n := 1) (C := R_Md) (wr := []) F (c_Md_write l D cA n ob0 ad59 ((Md_kinds o55), (Md_values o55), (Md_firsts o55), (Md_manies o55), (Md_said o55), (Md_marked o55), (Md_leaders o55), (Md_trial o55), (Md_shown o55), (Md_end o55), (Md_nodes o55), (Md_features o55), (Md_parts o55), (Md_fields o55), (Md_pushedFeatures o55), (Md_pushedParts o55), (Md_pushed o55), (Md_touched o55), (Md_touches o55), (Md_reached o55), (Md_blocks o55), (Md_newBlocks o55), (Md_places o55), (Md_written o55), a60, (Md_length o55)) p1 o61 k62 h64) kw_840 kw_837 kw_839 kw_31 kw_47 ⟨rfl, by decide, by decide, by decide +kernel⟩ rfl (by decide) (by decide) (ci := 8) rfl rfl 0 rfl [0, 1, 2, 3, 4, 5, 6, 7, 8, 9, 10, 11, 12, 13, 14, 15, 16, 17, 18, 19, 20] [] rfl rfl (by decide) (by decide) (by decide) rfl (Nat.le_of_ble_eq_true rfl) (by omega) (by omega) d_Md_like_69 (fun ad65 => ?_)
      refine x_nf (ws' := [((ob0 0), .inr (8, [.ref (ob0 1), .ref (ob0 2), .ref (ob0 3), .ref (ob0 4), .ref (ob0 5), .ref (ob0 6), .ref (ob0 7), .ref (ob0 8), .ref (ob0 9), .int (Md_end o61), .int (Md_nodes o61), .ref (ob0 10), .ref (ob0 11), .int (Md_fields o61), .ref (ob0 12), .ref (ob0 13), .int (Md_pushed o61), .ref (ob0 14), .int (Md_touches o61), .ref (ob0 15), .ref (ob0 16), .ref (ob0 17), .ref (ob0 18), .ref (ad65 0), .ref (ad65 1), .int (Md_length o61)])), ((ob0 1), .inl (cA 1, (Md_kinds o61).1, .inl (Md_kinds o61).2)), ((ob0 2), .inl (cA 0, (Md_values o61).1, .inl (Md_values o61).2)), ((ob0 3), .inl (cA 0, (Md_firsts o61).1, .inl (Md_firsts o61).2)), ((ob0 4), .inl (cA 0, (Md_manies o61).1, .inl (Md_manies o61).2)), ((ob0 5), .inl (cA 2, (Md_said o61).1, .inl (Md_said o61).2)), ((ob0 6), .inl (cA 2, (Md_marked o61).1, .inl (Md_marked o61).2)), ((ob0 7), .inl (cA 0, (Md_leaders o61).1, .inl (Md_leaders o61).2)), ((ob0 8), .inl (cA 0, (Md_trial o61).1, .inl (Md_trial o61).2)), ((ob0 9), .inl (cA 0, (Md_shown o61).1, .inl (Md_shown o61).2)), ((ob0 10), .inl (cA 0, (Md_features o61).1, .inl (Md_features o61).2)), ((ob0 11), .inl (cA 0, (Md_parts o61).1, .inl (Md_parts o61).2)), ((ob0 12), .inl (cA 0, (Md_pushedFeatures o61).1, .inl (Md_pushedFeatures o61).2)), ((ob0 13), .inl (cA 0, (Md_pushedParts o61).1, .inl (Md_pushedParts o61).2)), ((ob0 14), .inl (cA 0, (Md_touched o61).1, .inl (Md_touched o61).2)), ((ob0 15), .inl (cA 0, (Md_reached o61).1, .inl (Md_reached o61).2)), ((ob0 16), .inl (cA 0, (Md_blocks o61).1, .inl (Md_blocks o61).2)), ((ob0 17), .inl (cA 0, (Md_newBlocks o61).1, .inl (Md_newBlocks o61).2)), ((ob0 18), .inl (cA 0, (Md_places o61).1, .inl (Md_places o61).2)), ((ad65 0), .inl (cA 0, (Md_written o61).1, .inl (Md_written o61).2)), ((ad65 1), .inl (cA 0, (Md_other o61).1, .inl (Md_other o61).2))]) (st' := []) rfl rfl ?_
      refine x_iload_n F d_Md_like_72 3 rfl rfl ?_
      refine x_aload_n F d_Md_like_73 0 rfl rfl ?_
      refine x_get F ck_Md hin_Md 0 25 rfl (by decide) kw_659 rfl rfl d_Md_like_74 ?_
      replace hm := xm_b_some hm
      obtain ⟨j66, k67, k68, h69, hm, c_j66, d_j66⟩ := hm
      refine x_mrg (k1 := k67) (M := 85) (v := j66) (st := []) ?_ (fun J => ?_)
      · skip
        refine x_istore (lv' := [(4, .int j66), (0, .ref (ob0 0)), (1, .int p0), (2, .int p1), (3, .int (Md_length o46))]) F d_Md_like_85 (by decide) rfl ?_
        refine x_iconst (v := (0 : Int32)) F d_Md_like_87 (by decide) ?_
        refine x_istore (lv' := [(5, .int (0 : Int32)), (4, .int j66), (0, .ref (ob0 0)), (1, .int p0), (2, .int p1), (3, .int (Md_length o46))]) F d_Md_like_88 (by decide) rfl ?_
        replace hm := xm_b_some hm
        obtain ⟨o79, k80, k81, h82, hm, c_o79, d_o79⟩ := hm
        refine x_sub [0, 1, 2, 3, 4, 5, 6, 7, 8, 9, 10, 11, 12, 13, 14, 15, 16, 17, 18, 19, 20] (by decide) ?_ (x_lv [2, 3, 4, 5, 1, 0] ?_ (wl_Md_like_90 F n ob0 p0 p1 (Md_length o46) o61 ad65 n j66 (0 : Int32)  _ _ o79 k80 h82 (by omega) (by omega) (fun ad83 => ?_)))
        · rfl
        · rfl
        refine x_nf2 (ws' := [((ob0 0), .inr (8, [.ref (ob0 1), .ref (ob0 2), .ref (ob0 3), .ref (ob0 4), .ref (ob0 5), .ref (ob0 6), .ref (ob0 7), .ref (ob0 8), .ref (ob0 9), .int (Md_end o61), .int (Md_nodes o61), .ref (ob0 10), .ref (ob0 11), .int (Md_fields o61), .ref (ob0 12), .ref (ob0 13), .int (Md_pushed o61), .ref (ob0 14), .int (Md_touches o61), .ref (ob0 15), .ref (ob0 16), .ref (ob0 17), .ref (ob0 18), .ref (ad65 0), .ref (ad65 1), .int (Md_length o61)])), ((ob0 1), .inl (cA 1, (Md_kinds o61).1, .inl (Md_kinds o61).2)), ((ob0 2), .inl (cA 0, (Md_values o61).1, .inl (Md_values o61).2)), ((ob0 3), .inl (cA 0, (Md_firsts o61).1, .inl (Md_firsts o61).2)), ((ob0 4), .inl (cA 0, (Md_manies o61).1, .inl (Md_manies o61).2)), ((ob0 5), .inl (cA 2, (Md_said o61).1, .inl (Md_said o61).2)), ((ob0 6), .inl (cA 2, (Md_marked o61).1, .inl (Md_marked o61).2)), ((ob0 7), .inl (cA 0, (Md_leaders o61).1, .inl (Md_leaders o61).2)), ((ob0 8), .inl (cA 0, (Md_trial o61).1, .inl (Md_trial o61).2)), ((ob0 9), .inl (cA 0, (Md_shown o61).1, .inl (Md_shown o61).2)), ((ob0 10), .inl (cA 0, (Md_features o61).1, .inl (Md_features o61).2)), ((ob0 11), .inl (cA 0, (Md_parts o61).1, .inl (Md_parts o61).2)), ((ob0 12), .inl (cA 0, (Md_pushedFeatures o61).1, .inl (Md_pushedFeatures o61).2)), ((ob0 13), .inl (cA 0, (Md_pushedParts o61).1, .inl (Md_pushedParts o61).2)), ((ob0 14), .inl (cA 0, (Md_touched o61).1, .inl (Md_touched o61).2)), ((ob0 15), .inl (cA 0, (Md_reached o61).1, .inl (Md_reached o61).2)), ((ob0 16), .inl (cA 0, (Md_blocks o61).1, .inl (Md_blocks o61).2)), ((ob0 17), .inl (cA 0, (Md_newBlocks o61).1, .inl (Md_newBlocks o61).2)), ((ob0 18), .inl (cA 0, (Md_places o61).1, .inl (Md_places o61).2)), ((ad65 0), .inl (cA 0, (Md_written o61).1, .inl (Md_written o61).2)), ((ad65 1), .inl (cA 0, (Md_other o61).1, .inl (Md_other o61).2))]) (lv' := [(0, .ref (ob0 0)), (1, .int p0), (2, .int p1), (3, .int (Md_length o46)), (4, .int (o79.1)), (5, .int (o79.2))]) rfl rfl ?_
        refine x_iload F d_Md_like_131 4 rfl ?_
        replace hm := xm_z_some hm
        obtain ⟨hz, hm⟩ := hm
        replace hm := xm_p_some hm
        obtain ⟨eo, c_o, d_o⟩ := hm
        subst eo
        refine x_sub [0, 1, 2, 3, 4, 5, 6, 7, 8, 9, 10, 11, 12, 13, 14, 15, 16, 17, 18, 19, 20] (by decide) ?_ (xe_i E ad65 (by omega) (by omega) rfl hz d_Md_like_133)
        rfl
      · replace hm := h69
        refine x_icmp_ne F 84 d_Md_like_77 (by decide) (fun c84 => ?_) (fun c84 => ?_)
        · replace hm := xm_f hm c84
          refine x_iconst (v := (0 : Int32)) F d_Md_like_84 (by decide) ?_
          replace hm := xm_p_some hm
          obtain ⟨eo, c_o, d_o⟩ := hm
          subst eo
          exact x_cs (by omega) (by omega) J
        · replace hm := xm_t hm c84
          refine x_iconst (v := (1 : Int32)) F d_Md_like_80 (by decide) ?_
          refine x_goto F 85 d_Md_like_81 (by decide) ?_
          replace hm := xm_p_some hm
          obtain ⟨eo, c_o, d_o⟩ := hm
          subst eo
          exact x_cs (by omega) (by omega) J
    · replace hm := xm_t hm c45
      refine x_iconst (v := (0 : Int32)) F d_Md_like_16 (by decide) ?_
      replace hm := xm_p_some hm
      obtain ⟨eo, c_o, d_o⟩ := hm
      subst eo
      refine x_sub [0, 1, 2, 3, 4, 5, 6, 7, 8, 9, 10, 11, 12, 13, 14, 15, 16, 17, 18, 19, 20] (by decide) ?_ (xe_i E ad0 (by omega) (by omega) rfl xz_0 d_Md_like_17)
      rfl

noncomputable def L_Md_mark_26 (y1 : Int32) (y2 : Int32) (y3 : Int32) (n i : Nat) : Int32 → S_Md → MO (Int32 × S_Md) := Nat.rec (motive := fun _ => Int32 → S_Md → MO (Int32 × S_Md)) (fun _ _ => none) (fun _ ih x4 s0 => (if (Md_end s0) ≤ x4 then (xm_p ((x4, s0))) else (xm_rd (Md_marked s0) x4 (fun v35 => (xm_rd (Md_kinds s0) x4 (fun v36 => (xm_b (if v36 = (-1 : Int32) then (xm_p (0 : Int32)) else (xm_rd (Md_leaders s0) x4 (fun v43 => (xm_rd (Md_reached s0) y3 (fun v44 => (if v43 = v44 then (xm_p (1 : Int32)) else (xm_p (0 : Int32)))))))) (fun j37 => (xm_wr (Md_marked s0) x4 (vp_nar .boolean (v35 ||| j37)) (fun a41 => (ih (x4 + 1) ((Md_kinds s0), (Md_values s0), (Md_firsts s0), (Md_manies s0), (Md_said s0), a41, (Md_leaders s0), (Md_trial s0), (Md_shown s0), (Md_end s0), (Md_nodes s0), (Md_features s0), (Md_parts s0), (Md_fields s0), (Md_pushedFeatures s0), (Md_pushedParts s0), (Md_pushed s0), (Md_touched s0), (Md_touches s0), (Md_reached s0), (Md_blocks s0), (Md_newBlocks s0), (Md_places s0), (Md_written s0), (Md_other s0), (Md_length s0))))))))))))) i
theorem L_Md_mark_26_s (y1 : Int32) (y2 : Int32) (y3 : Int32) (n i : Nat) (x4 : Int32) (s0 : S_Md) : L_Md_mark_26 y1 y2 y3 n (i + 1) x4 s0 = (if (Md_end s0) ≤ x4 then (xm_p ((x4, s0))) else (xm_rd (Md_marked s0) x4 (fun v35 => (xm_rd (Md_kinds s0) x4 (fun v36 => (xm_b (if v36 = (-1 : Int32) then (xm_p (0 : Int32)) else (xm_rd (Md_leaders s0) x4 (fun v43 => (xm_rd (Md_reached s0) y3 (fun v44 => (if v43 = v44 then (xm_p (1 : Int32)) else (xm_p (0 : Int32)))))))) (fun j37 => (xm_wr (Md_marked s0) x4 (vp_nar .boolean (v35 ||| j37)) (fun a41 => (L_Md_mark_26 y1 y2 y3 n i (x4 + 1) ((Md_kinds s0), (Md_values s0), (Md_firsts s0), (Md_manies s0), (Md_said s0), a41, (Md_leaders s0), (Md_trial s0), (Md_shown s0), (Md_end s0), (Md_nodes s0), (Md_features s0), (Md_parts s0), (Md_fields s0), (Md_pushedFeatures s0), (Md_pushedParts s0), (Md_pushed s0), (Md_touched s0), (Md_touches s0), (Md_reached s0), (Md_blocks s0), (Md_newBlocks s0), (Md_places s0), (Md_written s0), (Md_other s0), (Md_length s0)))))))))))) := rfl
noncomputable def L_Md_mark_18 (y1 : Int32) (y2 : Int32) (n i : Nat) : Int32 → S_Md → MO (Int32 × S_Md) := Nat.rec (motive := fun _ => Int32 → S_Md → MO (Int32 × S_Md)) (fun _ _ => none) (fun _ ih x3 s0 => (if y2 ≤ x3 then (xm_p ((x3, s0))) else (xm_b (L_Md_mark_26 y1 y2 x3 n n (0 : Int32) s0) (fun o46 => (ih (x3 + 1) (o46.2)))))) i
theorem L_Md_mark_18_s (y1 : Int32) (y2 : Int32) (n i : Nat) (x3 : Int32) (s0 : S_Md) : L_Md_mark_18 y1 y2 n (i + 1) x3 s0 = (if y2 ≤ x3 then (xm_p ((x3, s0))) else (xm_b (L_Md_mark_26 y1 y2 x3 n n (0 : Int32) s0) (fun o46 => (L_Md_mark_18 y1 y2 n i (x3 + 1) (o46.2))))) := rfl
noncomputable def m_Md_mark (n : Nat) (s0 : S_Md) (p0 : Int32) : MO (Int32 × S_Md) := (xm_b (m_Md_has n s0 p0) (fun o22 => (if o22 = 0 then (xm_p ((-1 : Int32), s0)) else (xm_b (m_Md_reach n s0 p0) (fun o28 => (xm_b (L_Md_mark_18 p0 (o28.1) n n (0 : Int32) (o28.2)) (fun o51 => (xm_rd (Md_leaders (o51.2)) p0 (fun v56 => (xm_p (v56, (o51.2))))))))))))
set_option maxHeartbeats 4000000 in
set_option maxRecDepth 100000 in
theorem wl_Md_mark_26 {X : XT} {l : Launch} {D : va_G} {cA : Nat → ClassId} {mc ms : Nat} (F : XF X l D cA b_Md_mark 5 (some FieldType.int) R_Md 2 50 mc ms) (n : Nat) (ob0 : Nat → Nat) (y1 : Int32) (y2 : Int32) (y3 : Int32)   : ∀ (i : Nat) (x4 : Int32) (s0 : S_Md) (ad0 : Nat → Nat) (nc ns : Nat) (out : Int32 × S_Md) (k : KC), L_Md_mark_26 y1 y2 y3 n i x4 s0 = some (out, k) → nc + k.1 ≤ mc → ns + k.2 ≤ ms → (∀ ad : Nat → Nat, XW X 5 ((w_Md cA ob0 ad  (out.2))) (nc + k.1) (ns + k.2) 83 [(0, .ref (ob0 0)), (1, .int y1), (2, .int y2), (3, .int y3), (4, .int (out.1))] []) → XW X 5 ((w_Md cA ob0 ad0  s0)) nc ns 26 [(0, .ref (ob0 0)), (1, .int y1), (2, .int y2), (3, .int y3), (4, .int x4)] [] := by
  intro i
  induction i with
  | zero =>
    intro x4 s0 ad0 nc ns out k hm
    replace hm : (none : MO (Int32 × S_Md)) = some (out, k) := hm
    cases hm
  | succ i ih =>
    intro x4 s0 ad0 nc ns out k hm hc hs KX
    rw [L_Md_mark_26_s] at hm
    refine x_ws (ws' := [((ob0 0), .inr (8, [.ref (ob0 1), .ref (ob0 2), .ref (ob0 3), .ref (ob0 4), .ref (ob0 5), .ref (ob0 6), .ref (ob0 7), .ref (ob0 8), .ref (ob0 9), .int (Md_end s0), .int (Md_nodes s0), .ref (ob0 10), .ref (ob0 11), .int (Md_fields s0), .ref (ob0 12), .ref (ob0 13), .int (Md_pushed s0), .ref (ob0 14), .int (Md_touches s0), .ref (ob0 15), .ref (ob0 16), .ref (ob0 17), .ref (ob0 18), .ref (ad0 0), .ref (ad0 1), .int (Md_length s0)])), ((ob0 1), .inl (cA 1, (Md_kinds s0).1, .inl (Md_kinds s0).2)), ((ob0 2), .inl (cA 0, (Md_values s0).1, .inl (Md_values s0).2)), ((ob0 3), .inl (cA 0, (Md_firsts s0).1, .inl (Md_firsts s0).2)), ((ob0 4), .inl (cA 0, (Md_manies s0).1, .inl (Md_manies s0).2)), ((ob0 5), .inl (cA 2, (Md_said s0).1, .inl (Md_said s0).2)), ((ob0 6), .inl (cA 2, (Md_marked s0).1, .inl (Md_marked s0).2)), ((ob0 7), .inl (cA 0, (Md_leaders s0).1, .inl (Md_leaders s0).2)), ((ob0 8), .inl (cA 0, (Md_trial s0).1, .inl (Md_trial s0).2)), ((ob0 9), .inl (cA 0, (Md_shown s0).1, .inl (Md_shown s0).2)), ((ob0 10), .inl (cA 0, (Md_features s0).1, .inl (Md_features s0).2)), ((ob0 11), .inl (cA 0, (Md_parts s0).1, .inl (Md_parts s0).2)), ((ob0 12), .inl (cA 0, (Md_pushedFeatures s0).1, .inl (Md_pushedFeatures s0).2)), ((ob0 13), .inl (cA 0, (Md_pushedParts s0).1, .inl (Md_pushedParts s0).2)), ((ob0 14), .inl (cA 0, (Md_touched s0).1, .inl (Md_touched s0).2)), ((ob0 15), .inl (cA 0, (Md_reached s0).1, .inl (Md_reached s0).2)), ((ob0 16), .inl (cA 0, (Md_blocks s0).1, .inl (Md_blocks s0).2)), ((ob0 17), .inl (cA 0, (Md_newBlocks s0).1, .inl (Md_newBlocks s0).2)), ((ob0 18), .inl (cA 0, (Md_places s0).1, .inl (Md_places s0).2)), ((ad0 0), .inl (cA 0, (Md_written s0).1, .inl (Md_written s0).2)), ((ad0 1), .inl (cA 0, (Md_other s0).1, .inl (Md_other s0).2))]) rfl ?_
    refine x_iload F d_Md_mark_26 4 rfl ?_
    refine x_aload_n F d_Md_mark_28 0 rfl rfl ?_
    refine x_get F ck_Md hin_Md 0 9 rfl (by decide) kw_643 rfl rfl d_Md_mark_29 ?_
    refine x_icmp_ge F 83 d_Md_mark_32 (by decide) (fun c34 => ?_) (fun c34 => ?_)
    · replace hm := xm_t hm c34
      replace hm := xm_p_some hm
      obtain ⟨eo, c_o, d_o⟩ := hm
      subst eo
      refine x_sub [0, 1, 2, 3, 4, 5, 6, 7, 8, 9, 10, 11, 12, 13, 14, 15, 16, 17, 18, 19, 20] (by decide) ?_ (x_lv [0, 1, 2, 3, 4] ?_ (x_cs (by omega) (by omega) (KX ad0)))
      · rfl
      · rfl
    · replace hm := xm_f hm c34
      refine x_aload_n F d_Md_mark_35 0 rfl rfl ?_
      refine x_get F ck_Md hin_Md 0 5 rfl (by decide) kw_639 rfl rfl d_Md_mark_36 ?_
      refine x_iload F d_Md_mark_39 4 rfl ?_
      refine x_dup2 F d_Md_mark_41 rfl rfl ?_
      replace hm := xm_rd_some hm
      obtain ⟨v35, e_v35, b_v35, hm⟩ := hm
      refine x_zald (x := (Md_marked s0)) F 6 rfl e_v35 b_v35 d_Md_mark_42 ?_
      refine x_aload_n F d_Md_mark_43 0 rfl rfl ?_
      refine x_get F ck_Md hin_Md 0 0 rfl (by decide) kw_634 rfl rfl d_Md_mark_44 ?_
      refine x_iload F d_Md_mark_47 4 rfl ?_
      replace hm := xm_rd_some hm
      obtain ⟨v36, e_v36, b_v36, hm⟩ := hm
      refine x_bald (x := (Md_kinds s0)) F 1 rfl e_v36 b_v36 d_Md_mark_49 ?_
      refine x_iconst (v := (-1 : Int32)) F d_Md_mark_50 (by decide) ?_
      replace hm := xm_b_some hm
      obtain ⟨j37, k38, k39, h40, hm, c_j37, d_j37⟩ := hm
      refine x_mrg (k1 := k38) (M := 75) (v := j37) (st := [.int v35, .int x4, .ref (ob0 6)]) ?_ (fun J => ?_)
      · skip
        refine x_ior F d_Md_mark_75 ?_
        replace hm := xm_wr_some hm
        obtain ⟨a41, e_a41, b_a41, hm⟩ := hm
        refine x_zast (x := (Md_marked s0)) (x' := a41) (ws' := [((ob0 0), .inr (8, [.ref (ob0 1), .ref (ob0 2), .ref (ob0 3), .ref (ob0 4), .ref (ob0 5), .ref (ob0 6), .ref (ob0 7), .ref (ob0 8), .ref (ob0 9), .int (Md_end s0), .int (Md_nodes s0), .ref (ob0 10), .ref (ob0 11), .int (Md_fields s0), .ref (ob0 12), .ref (ob0 13), .int (Md_pushed s0), .ref (ob0 14), .int (Md_touches s0), .ref (ob0 15), .ref (ob0 16), .ref (ob0 17), .ref (ob0 18), .ref (ad0 0), .ref (ad0 1), .int (Md_length s0)])), ((ob0 1), .inl (cA 1, (Md_kinds s0).1, .inl (Md_kinds s0).2)), ((ob0 2), .inl (cA 0, (Md_values s0).1, .inl (Md_values s0).2)), ((ob0 3), .inl (cA 0, (Md_firsts s0).1, .inl (Md_firsts s0).2)), ((ob0 4), .inl (cA 0, (Md_manies s0).1, .inl (Md_manies s0).2)), ((ob0 5), .inl (cA 2, (Md_said s0).1, .inl (Md_said s0).2)), ((ob0 6), .inl (cA 2, a41.1, .inl a41.2)), ((ob0 7), .inl (cA 0, (Md_leaders s0).1, .inl (Md_leaders s0).2)), ((ob0 8), .inl (cA 0, (Md_trial s0).1, .inl (Md_trial s0).2)), ((ob0 9), .inl (cA 0, (Md_shown s0).1, .inl (Md_shown s0).2)), ((ob0 10), .inl (cA 0, (Md_features s0).1, .inl (Md_features s0).2)), ((ob0 11), .inl (cA 0, (Md_parts s0).1, .inl (Md_parts s0).2)), ((ob0 12), .inl (cA 0, (Md_pushedFeatures s0).1, .inl (Md_pushedFeatures s0).2)), ((ob0 13), .inl (cA 0, (Md_pushedParts s0).1, .inl (Md_pushedParts s0).2)), ((ob0 14), .inl (cA 0, (Md_touched s0).1, .inl (Md_touched s0).2)), ((ob0 15), .inl (cA 0, (Md_reached s0).1, .inl (Md_reached s0).2)), ((ob0 16), .inl (cA 0, (Md_blocks s0).1, .inl (Md_blocks s0).2)), ((ob0 17), .inl (cA 0, (Md_newBlocks s0).1, .inl (Md_newBlocks s0).2)), ((ob0 18), .inl (cA 0, (Md_places s0).1, .inl (Md_places s0).2)), ((ad0 0), .inl (cA 0, (Md_written s0).1, .inl (Md_written s0).2)), ((ad0 1), .inl (cA 0, (Md_other s0).1, .inl (Md_other s0).2))]) F 6 rfl e_a41 b_a41 rfl d_Md_mark_76 ?_
        refine x_iinc (v := (x4 + 1)) (lv' := [(4, .int (x4 + 1)), (0, .ref (ob0 0)), (1, .int y1), (2, .int y2), (3, .int y3)]) F d_Md_mark_77 4 rfl rfl (by decide) rfl ?_
        refine x_goto F 26 d_Md_mark_80 (by decide) ?_
        refine x_sub [0, 1, 2, 3, 4, 5, 6, 7, 8, 9, 10, 11, 12, 13, 14, 15, 16, 17, 18, 19, 20] (by decide) ?_ (x_lv [1, 2, 3, 4, 0] ?_ (ih (x4 + 1) ((Md_kinds s0), (Md_values s0), (Md_firsts s0), (Md_manies s0), (Md_said s0), a41, (Md_leaders s0), (Md_trial s0), (Md_shown s0), (Md_end s0), (Md_nodes s0), (Md_features s0), (Md_parts s0), (Md_fields s0), (Md_pushedFeatures s0), (Md_pushedParts s0), (Md_pushed s0), (Md_touched s0), (Md_touches s0), (Md_reached s0), (Md_blocks s0), (Md_newBlocks s0), (Md_places s0), (Md_written s0), (Md_other s0), (Md_length s0)) ad0 _ _ out k39 hm (by omega) (by omega) (fun ad => x_cs (by omega) (by omega) (KX ad))))
        · rfl
        · rfl
      · replace hm := h40
        refine x_icmp_eq F 74 d_Md_mark_51 (by decide) (fun c42 => ?_) (fun c42 => ?_)
        · replace hm := xm_t hm c42
          refine x_iconst (v := (0 : Int32)) F d_Md_mark_74 (by decide) ?_
          replace hm := xm_p_some hm
          obtain ⟨eo, c_o, d_o⟩ := hm
          subst eo
          exact x_cs (by omega) (by omega) J
        · replace hm := xm_f hm c42
          refine x_aload_n F d_Md_mark_54 0 rfl rfl ?_
          refine x_get F ck_Md hin_Md 0 6 rfl (by decide) kw_640 rfl rfl d_Md_mark_55 ?_
          refine x_iload F d_Md_mark_58 4 rfl ?_
          replace hm := xm_rd_some hm
          obtain ⟨v43, e_v43, b_v43, hm⟩ := hm
          refine x_iald (x := (Md_leaders s0)) F 7 rfl e_v43 b_v43 d_Md_mark_60 ?_
          refine x_aload_n F d_Md_mark_61 0 rfl rfl ?_
          refine x_get F ck_Md hin_Md 0 19 rfl (by decide) kw_653 rfl rfl d_Md_mark_62 ?_
          refine x_iload_n F d_Md_mark_65 3 rfl rfl ?_
          replace hm := xm_rd_some hm
          obtain ⟨v44, e_v44, b_v44, hm⟩ := hm
          refine x_iald (x := (Md_reached s0)) F 15 rfl e_v44 b_v44 d_Md_mark_66 ?_
          refine x_icmp_ne F 74 d_Md_mark_67 (by decide) (fun c45 => ?_) (fun c45 => ?_)
          · replace hm := xm_f hm c45
            refine x_iconst (v := (0 : Int32)) F d_Md_mark_74 (by decide) ?_
            replace hm := xm_p_some hm
            obtain ⟨eo, c_o, d_o⟩ := hm
            subst eo
            exact x_cs (by omega) (by omega) J
          · replace hm := xm_t hm c45
            refine x_iconst (v := (1 : Int32)) F d_Md_mark_70 (by decide) ?_
            refine x_goto F 75 d_Md_mark_71 (by decide) ?_
            replace hm := xm_p_some hm
            obtain ⟨eo, c_o, d_o⟩ := hm
            subst eo
            exact x_cs (by omega) (by omega) J
set_option maxHeartbeats 4000000 in
set_option maxRecDepth 100000 in
theorem wl_Md_mark_18 {X : XT} {l : Launch} {D : va_G} {cA : Nat → ClassId} {mc ms : Nat} (F : XF X l D cA b_Md_mark 5 (some FieldType.int) R_Md 2 50 mc ms) (n : Nat) (ob0 : Nat → Nat) (y1 : Int32) (y2 : Int32)   : ∀ (i : Nat) (x3 : Int32) (s0 : S_Md) (ad0 : Nat → Nat) (nc ns : Nat) (out : Int32 × S_Md) (k : KC), L_Md_mark_18 y1 y2 n i x3 s0 = some (out, k) → nc + k.1 ≤ mc → ns + k.2 ≤ ms → (∀ ad : Nat → Nat, XW X 5 ((w_Md cA ob0 ad  (out.2))) (nc + k.1) (ns + k.2) 89 [(0, .ref (ob0 0)), (1, .int y1), (2, .int y2), (3, .int (out.1))] []) → XW X 5 ((w_Md cA ob0 ad0  s0)) nc ns 18 [(0, .ref (ob0 0)), (1, .int y1), (2, .int y2), (3, .int x3)] [] := by
  intro i
  induction i with
  | zero =>
    intro x3 s0 ad0 nc ns out k hm
    replace hm : (none : MO (Int32 × S_Md)) = some (out, k) := hm
    cases hm
  | succ i ih =>
    intro x3 s0 ad0 nc ns out k hm hc hs KX
    rw [L_Md_mark_18_s] at hm
    refine x_ws (ws' := [((ob0 0), .inr (8, [.ref (ob0 1), .ref (ob0 2), .ref (ob0 3), .ref (ob0 4), .ref (ob0 5), .ref (ob0 6), .ref (ob0 7), .ref (ob0 8), .ref (ob0 9), .int (Md_end s0), .int (Md_nodes s0), .ref (ob0 10), .ref (ob0 11), .int (Md_fields s0), .ref (ob0 12), .ref (ob0 13), .int (Md_pushed s0), .ref (ob0 14), .int (Md_touches s0), .ref (ob0 15), .ref (ob0 16), .ref (ob0 17), .ref (ob0 18), .ref (ad0 0), .ref (ad0 1), .int (Md_length s0)])), ((ob0 1), .inl (cA 1, (Md_kinds s0).1, .inl (Md_kinds s0).2)), ((ob0 2), .inl (cA 0, (Md_values s0).1, .inl (Md_values s0).2)), ((ob0 3), .inl (cA 0, (Md_firsts s0).1, .inl (Md_firsts s0).2)), ((ob0 4), .inl (cA 0, (Md_manies s0).1, .inl (Md_manies s0).2)), ((ob0 5), .inl (cA 2, (Md_said s0).1, .inl (Md_said s0).2)), ((ob0 6), .inl (cA 2, (Md_marked s0).1, .inl (Md_marked s0).2)), ((ob0 7), .inl (cA 0, (Md_leaders s0).1, .inl (Md_leaders s0).2)), ((ob0 8), .inl (cA 0, (Md_trial s0).1, .inl (Md_trial s0).2)), ((ob0 9), .inl (cA 0, (Md_shown s0).1, .inl (Md_shown s0).2)), ((ob0 10), .inl (cA 0, (Md_features s0).1, .inl (Md_features s0).2)), ((ob0 11), .inl (cA 0, (Md_parts s0).1, .inl (Md_parts s0).2)), ((ob0 12), .inl (cA 0, (Md_pushedFeatures s0).1, .inl (Md_pushedFeatures s0).2)), ((ob0 13), .inl (cA 0, (Md_pushedParts s0).1, .inl (Md_pushedParts s0).2)), ((ob0 14), .inl (cA 0, (Md_touched s0).1, .inl (Md_touched s0).2)), ((ob0 15), .inl (cA 0, (Md_reached s0).1, .inl (Md_reached s0).2)), ((ob0 16), .inl (cA 0, (Md_blocks s0).1, .inl (Md_blocks s0).2)), ((ob0 17), .inl (cA 0, (Md_newBlocks s0).1, .inl (Md_newBlocks s0).2)), ((ob0 18), .inl (cA 0, (Md_places s0).1, .inl (Md_places s0).2)), ((ad0 0), .inl (cA 0, (Md_written s0).1, .inl (Md_written s0).2)), ((ad0 1), .inl (cA 0, (Md_other s0).1, .inl (Md_other s0).2))]) rfl ?_
    refine x_iload_n F d_Md_mark_18 3 rfl rfl ?_
    refine x_iload_n F d_Md_mark_19 2 rfl rfl ?_
    refine x_icmp_ge F 89 d_Md_mark_20 (by decide) (fun c33 => ?_) (fun c33 => ?_)
    · replace hm := xm_t hm c33
      replace hm := xm_p_some hm
      obtain ⟨eo, c_o, d_o⟩ := hm
      subst eo
      refine x_sub [0, 1, 2, 3, 4, 5, 6, 7, 8, 9, 10, 11, 12, 13, 14, 15, 16, 17, 18, 19, 20] (by decide) ?_ (x_lv [0, 1, 2, 3] ?_ (x_cs (by omega) (by omega) (KX ad0)))
      · rfl
      · rfl
    · replace hm := xm_f hm c33
      refine x_iconst (v := (0 : Int32)) F d_Md_mark_23 (by decide) ?_
      refine x_istore (lv' := [(4, .int (0 : Int32)), (0, .ref (ob0 0)), (1, .int y1), (2, .int y2), (3, .int x3)]) F d_Md_mark_24 (by decide) rfl ?_
      replace hm := xm_b_some hm
      obtain ⟨o46, k47, k48, h49, hm, c_o46, d_o46⟩ := hm
      refine x_sub [0, 1, 2, 3, 4, 5, 6, 7, 8, 9, 10, 11, 12, 13, 14, 15, 16, 17, 18, 19, 20] (by decide) ?_ (x_lv [1, 2, 3, 4, 0] ?_ (wl_Md_mark_26 F n ob0 y1 y2 x3  n (0 : Int32) s0 ad0 _ _ o46 k47 h49 (by omega) (by omega) (fun ad50 => ?_)))
      · rfl
      · rfl
      refine x_nf2 (ws' := [((ob0 0), .inr (8, [.ref (ob0 1), .ref (ob0 2), .ref (ob0 3), .ref (ob0 4), .ref (ob0 5), .ref (ob0 6), .ref (ob0 7), .ref (ob0 8), .ref (ob0 9), .int (Md_end (o46.2)), .int (Md_nodes (o46.2)), .ref (ob0 10), .ref (ob0 11), .int (Md_fields (o46.2)), .ref (ob0 12), .ref (ob0 13), .int (Md_pushed (o46.2)), .ref (ob0 14), .int (Md_touches (o46.2)), .ref (ob0 15), .ref (ob0 16), .ref (ob0 17), .ref (ob0 18), .ref (ad50 0), .ref (ad50 1), .int (Md_length (o46.2))])), ((ob0 1), .inl (cA 1, (Md_kinds (o46.2)).1, .inl (Md_kinds (o46.2)).2)), ((ob0 2), .inl (cA 0, (Md_values (o46.2)).1, .inl (Md_values (o46.2)).2)), ((ob0 3), .inl (cA 0, (Md_firsts (o46.2)).1, .inl (Md_firsts (o46.2)).2)), ((ob0 4), .inl (cA 0, (Md_manies (o46.2)).1, .inl (Md_manies (o46.2)).2)), ((ob0 5), .inl (cA 2, (Md_said (o46.2)).1, .inl (Md_said (o46.2)).2)), ((ob0 6), .inl (cA 2, (Md_marked (o46.2)).1, .inl (Md_marked (o46.2)).2)), ((ob0 7), .inl (cA 0, (Md_leaders (o46.2)).1, .inl (Md_leaders (o46.2)).2)), ((ob0 8), .inl (cA 0, (Md_trial (o46.2)).1, .inl (Md_trial (o46.2)).2)), ((ob0 9), .inl (cA 0, (Md_shown (o46.2)).1, .inl (Md_shown (o46.2)).2)), ((ob0 10), .inl (cA 0, (Md_features (o46.2)).1, .inl (Md_features (o46.2)).2)), ((ob0 11), .inl (cA 0, (Md_parts (o46.2)).1, .inl (Md_parts (o46.2)).2)), ((ob0 12), .inl (cA 0, (Md_pushedFeatures (o46.2)).1, .inl (Md_pushedFeatures (o46.2)).2)), ((ob0 13), .inl (cA 0, (Md_pushedParts (o46.2)).1, .inl (Md_pushedParts (o46.2)).2)), ((ob0 14), .inl (cA 0, (Md_touched (o46.2)).1, .inl (Md_touched (o46.2)).2)), ((ob0 15), .inl (cA 0, (Md_reached (o46.2)).1, .inl (Md_reached (o46.2)).2)), ((ob0 16), .inl (cA 0, (Md_blocks (o46.2)).1, .inl (Md_blocks (o46.2)).2)), ((ob0 17), .inl (cA 0, (Md_newBlocks (o46.2)).1, .inl (Md_newBlocks (o46.2)).2)), ((ob0 18), .inl (cA 0, (Md_places (o46.2)).1, .inl (Md_places (o46.2)).2)), ((ad50 0), .inl (cA 0, (Md_written (o46.2)).1, .inl (Md_written (o46.2)).2)), ((ad50 1), .inl (cA 0, (Md_other (o46.2)).1, .inl (Md_other (o46.2)).2))]) (lv' := [(0, .ref (ob0 0)), (1, .int y1), (2, .int y2), (3, .int x3), (4, .int (o46.1))]) rfl rfl ?_
      refine x_iinc (v := (x3 + 1)) (lv' := [(3, .int (x3 + 1)), (0, .ref (ob0 0)), (1, .int y1), (2, .int y2), (4, .int (o46.1))]) F d_Md_mark_83 3 rfl rfl (by decide) rfl ?_
      refine x_goto F 18 d_Md_mark_86 (by decide) ?_
      refine x_sub [0, 1, 2, 3, 4, 5, 6, 7, 8, 9, 10, 11, 12, 13, 14, 15, 16, 17, 18, 19, 20] (by decide) ?_ (x_lv [1, 2, 3, 0] ?_ (ih (x3 + 1) (o46.2) ad50 _ _ out k48 hm (by omega) (by omega) (fun ad => x_cs (by omega) (by omega) (KX ad))))
      · rfl
      · rfl
set_option maxHeartbeats 4000000 in
set_option maxRecDepth 100000 in
theorem c_Md_mark (l : Launch) (D : va_G) (cA : Nat → ClassId) (n : Nat) (ob0 ad0 : Nat → Nat) (s0 : S_Md) (p0 : Int32) (out : Int32 × S_Md) (k : KC) (hm : m_Md_mark n s0 p0 = some (out, k)) : XM l D cA y_Md_mark b_Md_mark 5 (some FieldType.int) 2 50 [.ref (ob0 0), .int p0] ((w_Md cA ob0 ad0  s0)) k (fun _ => some (.int (out.1))) (fun ad => (w_Md cA ob0 ad  (out.2))) := by
  refine x_met (cc := b_Md_mark) (nL := 5) (ret := (some FieldType.int)) R_Md (by decide) (Nat.le_of_ble_eq_true rfl) rfl (fun X F I E => ?_)
  unfold m_Md_mark at hm
  refine x_nf2 (ws' := [((ob0 0), .inr (8, [.ref (ob0 1), .ref (ob0 2), .ref (ob0 3), .ref (ob0 4), .ref (ob0 5), .ref (ob0 6), .ref (ob0 7), .ref (ob0 8), .ref (ob0 9), .int (Md_end s0), .int (Md_nodes s0), .ref (ob0 10), .ref (ob0 11), .int (Md_fields s0), .ref (ob0 12), .ref (ob0 13), .int (Md_pushed s0), .ref (ob0 14), .int (Md_touches s0), .ref (ob0 15), .ref (ob0 16), .ref (ob0 17), .ref (ob0 18), .ref (ad0 0), .ref (ad0 1), .int (Md_length s0)])), ((ob0 1), .inl (cA 1, (Md_kinds s0).1, .inl (Md_kinds s0).2)), ((ob0 2), .inl (cA 0, (Md_values s0).1, .inl (Md_values s0).2)), ((ob0 3), .inl (cA 0, (Md_firsts s0).1, .inl (Md_firsts s0).2)), ((ob0 4), .inl (cA 0, (Md_manies s0).1, .inl (Md_manies s0).2)), ((ob0 5), .inl (cA 2, (Md_said s0).1, .inl (Md_said s0).2)), ((ob0 6), .inl (cA 2, (Md_marked s0).1, .inl (Md_marked s0).2)), ((ob0 7), .inl (cA 0, (Md_leaders s0).1, .inl (Md_leaders s0).2)), ((ob0 8), .inl (cA 0, (Md_trial s0).1, .inl (Md_trial s0).2)), ((ob0 9), .inl (cA 0, (Md_shown s0).1, .inl (Md_shown s0).2)), ((ob0 10), .inl (cA 0, (Md_features s0).1, .inl (Md_features s0).2)), ((ob0 11), .inl (cA 0, (Md_parts s0).1, .inl (Md_parts s0).2)), ((ob0 12), .inl (cA 0, (Md_pushedFeatures s0).1, .inl (Md_pushedFeatures s0).2)), ((ob0 13), .inl (cA 0, (Md_pushedParts s0).1, .inl (Md_pushedParts s0).2)), ((ob0 14), .inl (cA 0, (Md_touched s0).1, .inl (Md_touched s0).2)), ((ob0 15), .inl (cA 0, (Md_reached s0).1, .inl (Md_reached s0).2)), ((ob0 16), .inl (cA 0, (Md_blocks s0).1, .inl (Md_blocks s0).2)), ((ob0 17), .inl (cA 0, (Md_newBlocks s0).1, .inl (Md_newBlocks s0).2)), ((ob0 18), .inl (cA 0, (Md_places s0).1, .inl (Md_places s0).2)), ((ad0 0), .inl (cA 0, (Md_written s0).1, .inl (Md_written s0).2)), ((ad0 1), .inl (cA 0, (Md_other s0).1, .inl (Md_other s0).2))]) (lv' := [(0, .ref (ob0 0)), (1, .int p0)]) rfl rfl ?_
  refine x_aload_n F d_Md_mark_0 0 rfl rfl ?_
  refine x_iload_n F d_Md_mark_1 1 rfl rfl ?_
  replace hm := xm_b_some hm
  obtain ⟨o22, k23, k24, h25, hm, c_o22, d_o22⟩ := hm
  refine x_callV (n := 1) (C := R_Md) (wr := []) F (c_Md_has l D cA n ob0 ad0 s0 p0 o22 k23 h25) kw_742 kw_739 kw_741 kw_20 kw_47 ⟨rfl, by decide, by decide, by decide +kernel⟩ rfl (by decide) (by decide) (ci := 8) rfl rfl 0 rfl [0, 1, 2, 3, 4, 5, 6, 7, 8, 9, 10, 11, 12, 13, 14, 15, 16, 17, 18, 19, 20] [] rfl rfl (by decide) (by decide) (by decide) rfl (Nat.le_of_ble_eq_true rfl) (by omega) (by omega) d_Md_mark_2 (fun ad26 => ?_)
  refine x_nf (ws' := [((ob0 0), .inr (8, [.ref (ob0 1), .ref (ob0 2), .ref (ob0 3), .ref (ob0 4), .ref (ob0 5), .ref (ob0 6), .ref (ob0 7), .ref (ob0 8), .ref (ob0 9), .int (Md_end s0), .int (Md_nodes s0), .ref (ob0 10), .ref (ob0 11), .int (Md_fields s0), .ref (ob0 12), .ref (ob0 13), .int (Md_pushed s0), .ref (ob0 14), .int (Md_touches s0), .ref (ob0 15), .ref (ob0 16), .ref (ob0 17), .ref (ob0 18), .ref (ad0 0), .ref (ad0 1), .int (Md_length s0)])), ((ob0 1), .inl (cA 1, (Md_kinds s0).1, .inl (Md_kinds s0).2)), ((ob0 2), .inl (cA 0, (Md_values s0).1, .inl (Md_values s0).2)), ((ob0 3), .inl (cA 0, (Md_firsts s0).1, .inl (Md_firsts s0).2)), ((ob0 4), .inl (cA 0, (Md_manies s0).1, .inl (Md_manies s0).2)), ((ob0 5), .inl (cA 2, (Md_said s0).1, .inl (Md_said s0).2)), ((ob0 6), .inl (cA 2, (Md_marked s0).1, .inl (Md_marked s0).2)), ((ob0 7), .inl (cA 0, (Md_leaders s0).1, .inl (Md_leaders s0).2)), ((ob0 8), .inl (cA 0, (Md_trial s0).1, .inl (Md_trial s0).2)), ((ob0 9), .inl (cA 0, (Md_shown s0).1, .inl (Md_shown s0).2)), ((ob0 10), .inl (cA 0, (Md_features s0).1, .inl (Md_features s0).2)), ((ob0 11), .inl (cA 0, (Md_parts s0).1, .inl (Md_parts s0).2)), ((ob0 12), .inl (cA 0, (Md_pushedFeatures s0).1, .inl (Md_pushedFeatures s0).2)), ((ob0 13), .inl (cA 0, (Md_pushedParts s0).1, .inl (Md_pushedParts s0).2)), ((ob0 14), .inl (cA 0, (Md_touched s0).1, .inl (Md_touched s0).2)), ((ob0 15), .inl (cA 0, (Md_reached s0).1, .inl (Md_reached s0).2)), ((ob0 16), .inl (cA 0, (Md_blocks s0).1, .inl (Md_blocks s0).2)), ((ob0 17), .inl (cA 0, (Md_newBlocks s0).1, .inl (Md_newBlocks s0).2)), ((ob0 18), .inl (cA 0, (Md_places s0).1, .inl (Md_places s0).2)), ((ad0 0), .inl (cA 0, (Md_written s0).1, .inl (Md_written s0).2)), ((ad0 1), .inl (cA 0, (Md_other s0).1, .inl (Md_other s0).2))]) (st' := [.int o22]) rfl rfl ?_
  refine x_if_ne F 10 d_Md_mark_5 (by decide) (fun c27 => ?_) (fun c27 => ?_)
  · replace hm := xm_f hm c27
    refine x_aload_n F d_Md_mark_10 0 rfl rfl ?_
    refine x_iload_n F d_Md_mark_11 1 rfl rfl ?_
    replace hm := xm_b_some hm
    obtain ⟨o28, k29, k30, h31, hm, c_o28, d_o28⟩ := hm
    refine x_callV (n := 1) (C := R_Md) (wr := []) F (c_Md_reach l D cA n ob0 ad0 s0 p0 o28 k29 h31) kw_844 kw_841 kw_843 kw_32 kw_47 ⟨rfl, by decide, by decide, by decide +kernel⟩ rfl (by decide) (by decide) (ci := 8) rfl rfl 0 rfl [0, 1, 2, 3, 4, 5, 6, 7, 8, 9, 10, 11, 12, 13, 14, 15, 16, 17, 18, 19, 20] [] rfl rfl (by decide) (by decide) (by decide) rfl (Nat.le_of_ble_eq_true rfl) (by omega) (by omega) d_Md_mark_12 (fun ad32 => ?_)
    refine x_nf (ws' := [((ob0 0), .inr (8, [.ref (ob0 1), .ref (ob0 2), .ref (ob0 3), .ref (ob0 4), .ref (ob0 5), .ref (ob0 6), .ref (ob0 7), .ref (ob0 8), .ref (ob0 9), .int (Md_end (o28.2)), .int (Md_nodes (o28.2)), .ref (ob0 10), .ref (ob0 11), .int (Md_fields (o28.2)), .ref (ob0 12), .ref (ob0 13), .int (Md_pushed (o28.2)), .ref (ob0 14), .int (Md_touches (o28.2)), .ref (ob0 15), .ref (ob0 16), .ref (ob0 17), .ref (ob0 18), .ref (ad32 0), .ref (ad32 1), .int (Md_length (o28.2))])), ((ob0 1), .inl (cA 1, (Md_kinds (o28.2)).1, .inl (Md_kinds (o28.2)).2)), ((ob0 2), .inl (cA 0, (Md_values (o28.2)).1, .inl (Md_values (o28.2)).2)), ((ob0 3), .inl (cA 0, (Md_firsts (o28.2)).1, .inl (Md_firsts (o28.2)).2)), ((ob0 4), .inl (cA 0, (Md_manies (o28.2)).1, .inl (Md_manies (o28.2)).2)), ((ob0 5), .inl (cA 2, (Md_said (o28.2)).1, .inl (Md_said (o28.2)).2)), ((ob0 6), .inl (cA 2, (Md_marked (o28.2)).1, .inl (Md_marked (o28.2)).2)), ((ob0 7), .inl (cA 0, (Md_leaders (o28.2)).1, .inl (Md_leaders (o28.2)).2)), ((ob0 8), .inl (cA 0, (Md_trial (o28.2)).1, .inl (Md_trial (o28.2)).2)), ((ob0 9), .inl (cA 0, (Md_shown (o28.2)).1, .inl (Md_shown (o28.2)).2)), ((ob0 10), .inl (cA 0, (Md_features (o28.2)).1, .inl (Md_features (o28.2)).2)), ((ob0 11), .inl (cA 0, (Md_parts (o28.2)).1, .inl (Md_parts (o28.2)).2)), ((ob0 12), .inl (cA 0, (Md_pushedFeatures (o28.2)).1, .inl (Md_pushedFeatures (o28.2)).2)), ((ob0 13), .inl (cA 0, (Md_pushedParts (o28.2)).1, .inl (Md_pushedParts (o28.2)).2)), ((ob0 14), .inl (cA 0, (Md_touched (o28.2)).1, .inl (Md_touched (o28.2)).2)), ((ob0 15), .inl (cA 0, (Md_reached (o28.2)).1, .inl (Md_reached (o28.2)).2)), ((ob0 16), .inl (cA 0, (Md_blocks (o28.2)).1, .inl (Md_blocks (o28.2)).2)), ((ob0 17), .inl (cA 0, (Md_newBlocks (o28.2)).1, .inl (Md_newBlocks (o28.2)).2)), ((ob0 18), .inl (cA 0, (Md_places (o28.2)).1, .inl (Md_places (o28.2)).2)), ((ad32 0), .inl (cA 0, (Md_written (o28.2)).1, .inl (Md_written (o28.2)).2)), ((ad32 1), .inl (cA 0, (Md_other (o28.2)).1, .inl (Md_other (o28.2)).2))]) (st' := [.int (o28.1)]) rfl rfl ?_
    refine x_istore_n (lv' := [(2, .int (o28.1)), (0, .ref (ob0 0)), (1, .int p0)]) F d_Md_mark_15 rfl (by decide) rfl ?_
    refine x_iconst (v := (0 : Int32)) F d_Md_mark_16 (by decide) ?_
    refine x_istore_n (lv' := [(3, .int (0 : Int32)), (2, .int (o28.1)), (0, .ref (ob0 0)), (1, .int p0)]) F d_Md_mark_17 rfl (by decide) rfl ?_
    replace hm := xm_b_some hm
    obtain ⟨o51, k52, k53, h54, hm, c_o51, d_o51⟩ := hm
    refine x_sub [0, 1, 2, 3, 4, 5, 6, 7, 8, 9, 10, 11, 12, 13, 14, 15, 16, 17, 18, 19, 20] (by decide) ?_ (x_lv [2, 3, 1, 0] ?_ (wl_Md_mark_18 F n ob0 p0 (o28.1)  n (0 : Int32) (o28.2) ad32 _ _ o51 k52 h54 (by omega) (by omega) (fun ad55 => ?_)))
    · rfl
    · rfl
    refine x_nf2 (ws' := [((ob0 0), .inr (8, [.ref (ob0 1), .ref (ob0 2), .ref (ob0 3), .ref (ob0 4), .ref (ob0 5), .ref (ob0 6), .ref (ob0 7), .ref (ob0 8), .ref (ob0 9), .int (Md_end (o51.2)), .int (Md_nodes (o51.2)), .ref (ob0 10), .ref (ob0 11), .int (Md_fields (o51.2)), .ref (ob0 12), .ref (ob0 13), .int (Md_pushed (o51.2)), .ref (ob0 14), .int (Md_touches (o51.2)), .ref (ob0 15), .ref (ob0 16), .ref (ob0 17), .ref (ob0 18), .ref (ad55 0), .ref (ad55 1), .int (Md_length (o51.2))])), ((ob0 1), .inl (cA 1, (Md_kinds (o51.2)).1, .inl (Md_kinds (o51.2)).2)), ((ob0 2), .inl (cA 0, (Md_values (o51.2)).1, .inl (Md_values (o51.2)).2)), ((ob0 3), .inl (cA 0, (Md_firsts (o51.2)).1, .inl (Md_firsts (o51.2)).2)), ((ob0 4), .inl (cA 0, (Md_manies (o51.2)).1, .inl (Md_manies (o51.2)).2)), ((ob0 5), .inl (cA 2, (Md_said (o51.2)).1, .inl (Md_said (o51.2)).2)), ((ob0 6), .inl (cA 2, (Md_marked (o51.2)).1, .inl (Md_marked (o51.2)).2)), ((ob0 7), .inl (cA 0, (Md_leaders (o51.2)).1, .inl (Md_leaders (o51.2)).2)), ((ob0 8), .inl (cA 0, (Md_trial (o51.2)).1, .inl (Md_trial (o51.2)).2)), ((ob0 9), .inl (cA 0, (Md_shown (o51.2)).1, .inl (Md_shown (o51.2)).2)), ((ob0 10), .inl (cA 0, (Md_features (o51.2)).1, .inl (Md_features (o51.2)).2)), ((ob0 11), .inl (cA 0, (Md_parts (o51.2)).1, .inl (Md_parts (o51.2)).2)), ((ob0 12), .inl (cA 0, (Md_pushedFeatures (o51.2)).1, .inl (Md_pushedFeatures (o51.2)).2)), ((ob0 13), .inl (cA 0, (Md_pushedParts (o51.2)).1, .inl (Md_pushedParts (o51.2)).2)), ((ob0 14), .inl (cA 0, (Md_touched (o51.2)).1, .inl (Md_touched (o51.2)).2)), ((ob0 15), .inl (cA 0, (Md_reached (o51.2)).1, .inl (Md_reached (o51.2)).2)), ((ob0 16), .inl (cA 0, (Md_blocks (o51.2)).1, .inl (Md_blocks (o51.2)).2)), ((ob0 17), .inl (cA 0, (Md_newBlocks (o51.2)).1, .inl (Md_newBlocks (o51.2)).2)), ((ob0 18), .inl (cA 0, (Md_places (o51.2)).1, .inl (Md_places (o51.2)).2)), ((ad55 0), .inl (cA 0, (Md_written (o51.2)).1, .inl (Md_written (o51.2)).2)), ((ad55 1), .inl (cA 0, (Md_other (o51.2)).1, .inl (Md_other (o51.2)).2))]) (lv' := [(0, .ref (ob0 0)), (1, .int p0), (2, .int (o28.1)), (3, .int (o51.1))]) rfl rfl ?_
    refine x_aload_n F d_Md_mark_89 0 rfl rfl ?_
    refine x_get F ck_Md hin_Md 0 6 rfl (by decide) kw_640 rfl rfl d_Md_mark_90 ?_
    refine x_iload_n F d_Md_mark_93 1 rfl rfl ?_
    replace hm := xm_rd_some hm
    obtain ⟨v56, e_v56, b_v56, hm⟩ := hm
    refine x_iald (x := (Md_leaders (o51.2))) F 7 rfl e_v56 b_v56 d_Md_mark_94 ?_
    replace hm := xm_p_some hm
    obtain ⟨eo, c_o, d_o⟩ := hm
    subst eo
    refine x_sub [0, 1, 2, 3, 4, 5, 6, 7, 8, 9, 10, 11, 12, 13, 14, 15, 16, 17, 18, 19, 20] (by decide) ?_ (xe_i E ad55 (by omega) (by omega) rfl (xz_i _) d_Md_mark_95)
    rfl
  · replace hm := xm_t hm c27
    refine x_iconst (v := (-1 : Int32)) F d_Md_mark_8 (by decide) ?_
    replace hm := xm_p_some hm
    obtain ⟨eo, c_o, d_o⟩ := hm
    subst eo
    refine x_sub [0, 1, 2, 3, 4, 5, 6, 7, 8, 9, 10, 11, 12, 13, 14, 15, 16, 17, 18, 19, 20] (by decide) ?_ (xe_i E ad0 (by omega) (by omega) rfl (xz_i _) d_Md_mark_9)
    rfl
