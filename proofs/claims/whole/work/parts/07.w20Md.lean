noncomputable def m_Md_touched (n : Nat) (s0 : S_Md) (p0 : Int32) : MO (Int32) := (if p0 < 0 then (xm_p (-1 : Int32)) else (if p0 < (Md_touches s0) then (xm_rd (Md_touched s0) p0 (fun v6 => (xm_p v6))) else (xm_p (-1 : Int32))))
set_option maxHeartbeats 4000000 in
set_option maxRecDepth 100000 in
theorem c_Md_touched (l : Launch) (D : va_G) (cA : Nat → ClassId) (n : Nat) (ob0 ad0 : Nat → Nat) (s0 : S_Md) (p0 : Int32) (out : Int32) (k : KC) (hm : m_Md_touched n s0 p0 = some (out, k)) : XM l D cA y_Md_touched b_Md_touched 2 (some FieldType.int) 0 0 [.ref (ob0 0), .int p0] ((w_Md cA ob0 ad0  s0)) k (fun _ => some (.int out)) (fun ad => (w_Md cA ob0 ad0  s0)) := by
  refine x_met (cc := b_Md_touched) (nL := 2) (ret := (some FieldType.int)) R_Md (by decide) (Nat.le_of_ble_eq_true rfl) rfl (fun X F I E => ?_)
  unfold m_Md_touched at hm
  refine x_nf2 (ws' := [((ob0 0), .inr (8, [.ref (ob0 1), .ref (ob0 2), .ref (ob0 3), .ref (ob0 4), .ref (ob0 5), .ref (ob0 6), .ref (ob0 7), .ref (ob0 8), .ref (ob0 9), .int (Md_end s0), .int (Md_nodes s0), .ref (ob0 10), .ref (ob0 11), .int (Md_fields s0), .ref (ob0 12), .ref (ob0 13), .int (Md_pushed s0), .ref (ob0 14), .int (Md_touches s0), .ref (ob0 15), .ref (ob0 16), .ref (ob0 17), .ref (ob0 18), .ref (ad0 0), .ref (ad0 1), .int (Md_length s0)])), ((ob0 1), .inl (cA 1, (Md_kinds s0).1, .inl (Md_kinds s0).2)), ((ob0 2), .inl (cA 0, (Md_values s0).1, .inl (Md_values s0).2)), ((ob0 3), .inl (cA 0, (Md_firsts s0).1, .inl (Md_firsts s0).2)), ((ob0 4), .inl (cA 0, (Md_manies s0).1, .inl (Md_manies s0).2)), ((ob0 5), .inl (cA 2, (Md_said s0).1, .inl (Md_said s0).2)), ((ob0 6), .inl (cA 2, (Md_marked s0).1, .inl (Md_marked s0).2)), ((ob0 7), .inl (cA 0, (Md_leaders s0).1, .inl (Md_leaders s0).2)), ((ob0 8), .inl (cA 0, (Md_trial s0).1, .inl (Md_trial s0).2)), ((ob0 9), .inl (cA 0, (Md_shown s0).1, .inl (Md_shown s0).2)), ((ob0 10), .inl (cA 0, (Md_features s0).1, .inl (Md_features s0).2)), ((ob0 11), .inl (cA 0, (Md_parts s0).1, .inl (Md_parts s0).2)), ((ob0 12), .inl (cA 0, (Md_pushedFeatures s0).1, .inl (Md_pushedFeatures s0).2)), ((ob0 13), .inl (cA 0, (Md_pushedParts s0).1, .inl (Md_pushedParts s0).2)), ((ob0 14), .inl (cA 0, (Md_touched s0).1, .inl (Md_touched s0).2)), ((ob0 15), .inl (cA 0, (Md_reached s0).1, .inl (Md_reached s0).2)), ((ob0 16), .inl (cA 0, (Md_blocks s0).1, .inl (Md_blocks s0).2)), ((ob0 17), .inl (cA 0, (Md_newBlocks s0).1, .inl (Md_newBlocks s0).2)), ((ob0 18), .inl (cA 0, (Md_places s0).1, .inl (Md_places s0).2)), ((ad0 0), .inl (cA 0, (Md_written s0).1, .inl (Md_written s0).2)), ((ad0 1), .inl (cA 0, (Md_other s0).1, .inl (Md_other s0).2))]) (lv' := [(0, .ref (ob0 0)), (1, .int p0)]) rfl rfl ?_
  refine x_iload_n F d_Md_touched_0 1 rfl rfl ?_
  refine x_if_lt F 12 d_Md_touched_1 (by decide) (fun c4 => ?_) (fun c4 => ?_)
  · replace hm := xm_t hm c4
    refine x_iconst (v := (-1 : Int32)) F d_Md_touched_12 (by decide) ?_
    refine x_goto F 22 d_Md_touched_13 (by decide) ?_
    replace hm := xm_p_some hm
    obtain ⟨eo, c_o, d_o⟩ := hm
    subst eo
    refine x_sub [0, 1, 2, 3, 4, 5, 6, 7, 8, 9, 10, 11, 12, 13, 14, 15, 16, 17, 18, 19, 20] (by decide) ?_ (xe_i E (fun _ => 0) (by omega) (by omega) rfl (xz_i _) d_Md_touched_22)
    rfl
  · replace hm := xm_f hm c4
    refine x_iload_n F d_Md_touched_4 1 rfl rfl ?_
    refine x_aload_n F d_Md_touched_5 0 rfl rfl ?_
    refine x_get F ck_Md hin_Md 0 18 rfl (by decide) kw_652 rfl rfl d_Md_touched_6 ?_
    refine x_icmp_lt F 16 d_Md_touched_9 (by decide) (fun c5 => ?_) (fun c5 => ?_)
    · replace hm := xm_t hm c5
      refine x_aload_n F d_Md_touched_16 0 rfl rfl ?_
      refine x_get F ck_Md hin_Md 0 17 rfl (by decide) kw_651 rfl rfl d_Md_touched_17 ?_
      refine x_iload_n F d_Md_touched_20 1 rfl rfl ?_
      replace hm := xm_rd_some hm
      obtain ⟨v6, e_v6, b_v6, hm⟩ := hm
      refine x_iald (x := (Md_touched s0)) F 14 rfl e_v6 b_v6 d_Md_touched_21 ?_
      replace hm := xm_p_some hm
      obtain ⟨eo, c_o, d_o⟩ := hm
      subst eo
      refine x_sub [0, 1, 2, 3, 4, 5, 6, 7, 8, 9, 10, 11, 12, 13, 14, 15, 16, 17, 18, 19, 20] (by decide) ?_ (xe_i E (fun _ => 0) (by omega) (by omega) rfl (xz_i _) d_Md_touched_22)
      rfl
    · replace hm := xm_f hm c5
      refine x_iconst (v := (-1 : Int32)) F d_Md_touched_12 (by decide) ?_
      refine x_goto F 22 d_Md_touched_13 (by decide) ?_
      replace hm := xm_p_some hm
      obtain ⟨eo, c_o, d_o⟩ := hm
      subst eo
      refine x_sub [0, 1, 2, 3, 4, 5, 6, 7, 8, 9, 10, 11, 12, 13, 14, 15, 16, 17, 18, 19, 20] (by decide) ?_ (xe_i E (fun _ => 0) (by omega) (by omega) rfl (xz_i _) d_Md_touched_22)
      rfl

noncomputable def L_Md_at_16 (y1 : Int32) (y2 : Int64) (s0 : S_Md) (n i : Nat) : Int32 → Int64 → MO ((Int32 × Int64) ⊕ (Int32)) := Nat.rec (motive := fun _ => Int32 → Int64 → MO ((Int32 × Int64) ⊕ (Int32))) (fun _ _ => none) (fun _ ih x4 x5 => (if (lg_cmp (x5 &&& (255 : Int64)) (0 : Int64)) = 0 then (xm_p (Sum.inl (x4, x5))) else (xm_b (m_Md_meant n s0 x4) (fun o26 => (xm_rd (Md_kinds s0) o26 (fun v31 => (if v31 < (3 : Int32) then (xm_p (Sum.inr (-1 : Int32))) else (xm_rd (Md_manies s0) o26 (fun v33 => (if ((x5 &&& (255 : Int64))).toInt32 ≤ v33 then (xm_rd (Md_firsts s0) o26 (fun v35 => (xm_rd (Md_parts s0) ((v35 + ((x5 &&& (255 : Int64))).toInt32) - (1 : Int32)) (fun v36 => (ih v36 (x5.toUInt64 >>> ((8 : Int32).toInt64.toUInt64 &&& Int64.toUInt64 63)).toInt64))))) else (xm_p (Sum.inr (-1 : Int32))))))))))))) i
theorem L_Md_at_16_s (y1 : Int32) (y2 : Int64) (s0 : S_Md) (n i : Nat) (x4 : Int32) (x5 : Int64) : L_Md_at_16 y1 y2 s0 n (i + 1) x4 x5 = (if (lg_cmp (x5 &&& (255 : Int64)) (0 : Int64)) = 0 then (xm_p (Sum.inl (x4, x5))) else (xm_b (m_Md_meant n s0 x4) (fun o26 => (xm_rd (Md_kinds s0) o26 (fun v31 => (if v31 < (3 : Int32) then (xm_p (Sum.inr (-1 : Int32))) else (xm_rd (Md_manies s0) o26 (fun v33 => (if ((x5 &&& (255 : Int64))).toInt32 ≤ v33 then (xm_rd (Md_firsts s0) o26 (fun v35 => (xm_rd (Md_parts s0) ((v35 + ((x5 &&& (255 : Int64))).toInt32) - (1 : Int32)) (fun v36 => (L_Md_at_16 y1 y2 s0 n i v36 (x5.toUInt64 >>> ((8 : Int32).toInt64.toUInt64 &&& Int64.toUInt64 63)).toInt64))))) else (xm_p (Sum.inr (-1 : Int32)))))))))))) := rfl
noncomputable def m_Md_at (n : Nat) (s0 : S_Md) (p0 : Int32) (p1 : Int64) : MO (Int32) := (xm_b (m_Md_has n s0 p0) (fun o19 => (if o19 = 0 then (xm_p (-1 : Int32)) else (xm_b (L_Md_at_16 p0 p1 s0 n n p0 p1) (fun o37 => Sum.elim (fun e42 => (xm_p (e42.1))) (fun z => xm_p z) o37)))))
set_option maxHeartbeats 4000000 in
set_option maxRecDepth 100000 in
theorem wl_Md_at_16 {X : XT} {l : Launch} {D : va_G} {cA : Nat → ClassId} {mc ms : Nat} (F : XF X l D cA b_Md_at 9 (some FieldType.int) R_Md 1 22 mc ms) (n : Nat) (ob0 : Nat → Nat) (y1 : Int32) (y2 : Int64) (s0 : S_Md) (ad0 : Nat → Nat) : ∀ (i : Nat) (x4 : Int32) (x5 : Int64)  (nc ns : Nat) (out : (Int32 × Int64) ⊕ (Int32)) (k : KC), L_Md_at_16 y1 y2 s0 n i x4 x5 = some (out, k) → nc + k.1 ≤ mc → ns + k.2 ≤ ms → (∀ e : Int32 × Int64, out = Sum.inl e → ∀ ad : Nat → Nat, XW X 9 ((w_Md cA ob0 ad0  s0)) (nc + k.1) (ns + k.2) 98 [(0, .ref (ob0 0)), (1, .int y1), (2, .long y2), (4, .int (e.1)), (5, .long (e.2))] []) → (∀ r : Int32, out = Sum.inr r → ∀ (ad : Nat → Nat) (pc : Nat) (lv : List (Nat × Value)), narrow .int (.int r) = .int r → decode b_Md_at pc = .ok (.ireturn, 1) → XW X 9 ((w_Md cA ob0 ad0  s0)) (nc + k.1) (ns + k.2) pc lv [.int r]) → XW X 9 ((w_Md cA ob0 ad0  s0)) nc ns 16 [(0, .ref (ob0 0)), (1, .int y1), (2, .long y2), (4, .int x4), (5, .long x5)] [] := by
  intro i
  induction i with
  | zero =>
    intro x4 x5  nc ns out k hm
    replace hm : (none : MO ((Int32 × Int64) ⊕ (Int32))) = some (out, k) := hm
    cases hm
  | succ i ih =>
    intro x4 x5  nc ns out k hm hc hs KX KR
    rw [L_Md_at_16_s] at hm
    refine x_ws (ws' := [((ob0 0), .inr (8, [.ref (ob0 1), .ref (ob0 2), .ref (ob0 3), .ref (ob0 4), .ref (ob0 5), .ref (ob0 6), .ref (ob0 7), .ref (ob0 8), .ref (ob0 9), .int (Md_end s0), .int (Md_nodes s0), .ref (ob0 10), .ref (ob0 11), .int (Md_fields s0), .ref (ob0 12), .ref (ob0 13), .int (Md_pushed s0), .ref (ob0 14), .int (Md_touches s0), .ref (ob0 15), .ref (ob0 16), .ref (ob0 17), .ref (ob0 18), .ref (ad0 0), .ref (ad0 1), .int (Md_length s0)])), ((ob0 1), .inl (cA 1, (Md_kinds s0).1, .inl (Md_kinds s0).2)), ((ob0 2), .inl (cA 0, (Md_values s0).1, .inl (Md_values s0).2)), ((ob0 3), .inl (cA 0, (Md_firsts s0).1, .inl (Md_firsts s0).2)), ((ob0 4), .inl (cA 0, (Md_manies s0).1, .inl (Md_manies s0).2)), ((ob0 5), .inl (cA 2, (Md_said s0).1, .inl (Md_said s0).2)), ((ob0 6), .inl (cA 2, (Md_marked s0).1, .inl (Md_marked s0).2)), ((ob0 7), .inl (cA 0, (Md_leaders s0).1, .inl (Md_leaders s0).2)), ((ob0 8), .inl (cA 0, (Md_trial s0).1, .inl (Md_trial s0).2)), ((ob0 9), .inl (cA 0, (Md_shown s0).1, .inl (Md_shown s0).2)), ((ob0 10), .inl (cA 0, (Md_features s0).1, .inl (Md_features s0).2)), ((ob0 11), .inl (cA 0, (Md_parts s0).1, .inl (Md_parts s0).2)), ((ob0 12), .inl (cA 0, (Md_pushedFeatures s0).1, .inl (Md_pushedFeatures s0).2)), ((ob0 13), .inl (cA 0, (Md_pushedParts s0).1, .inl (Md_pushedParts s0).2)), ((ob0 14), .inl (cA 0, (Md_touched s0).1, .inl (Md_touched s0).2)), ((ob0 15), .inl (cA 0, (Md_reached s0).1, .inl (Md_reached s0).2)), ((ob0 16), .inl (cA 0, (Md_blocks s0).1, .inl (Md_blocks s0).2)), ((ob0 17), .inl (cA 0, (Md_newBlocks s0).1, .inl (Md_newBlocks s0).2)), ((ob0 18), .inl (cA 0, (Md_places s0).1, .inl (Md_places s0).2)), ((ad0 0), .inl (cA 0, (Md_written s0).1, .inl (Md_written s0).2)), ((ad0 1), .inl (cA 0, (Md_other s0).1, .inl (Md_other s0).2))]) rfl ?_
    refine x_lload F d_Md_at_16 4 rfl ?_
    refine x_ldc2 (v := (255 : Int64)) F kw_816 d_Md_at_18 ?_
    refine x_land F d_Md_at_21 ?_
    refine x_lconst (v := (0 : Int64)) F d_Md_at_22 (by decide) ?_
    refine x_lcmp F d_Md_at_23 ?_
    refine x_if_eq F 98 d_Md_at_24 (by decide) (fun c25 => ?_) (fun c25 => ?_)
    · replace hm := xm_t hm c25
      replace hm := xm_p_some hm
      obtain ⟨eo, c_o, d_o⟩ := hm
      refine x_sub [0, 1, 2, 3, 4, 5, 6, 7, 8, 9, 10, 11, 12, 13, 14, 15, 16, 17, 18, 19, 20] (by decide) ?_ (x_lv [0, 1, 2, 3, 4] ?_ (x_cs (by omega) (by omega) (KX _ eo (fun _ => 0))))
      · rfl
      · rfl
    · replace hm := xm_f hm c25
      refine x_aload_n F d_Md_at_27 0 rfl rfl ?_
      refine x_iload F d_Md_at_28 3 rfl ?_
      replace hm := xm_b_some hm
      obtain ⟨o26, k27, k28, h29, hm, c_o26, d_o26⟩ := hm
      refine x_callV (n := 1) (C := R_Md) (wr := []) F (c_Md_meant l D cA n ob0 ad0 s0 x4 o26 k27 h29) kw_786 kw_783 kw_785 kw_27 kw_47 ⟨rfl, by decide, by decide, by decide +kernel⟩ rfl (by decide) (by decide) (ci := 8) rfl rfl 0 rfl [0, 1, 2, 3, 4, 5, 6, 7, 8, 9, 10, 11, 12, 13, 14, 15, 16, 17, 18, 19, 20] [] rfl rfl (by decide) (by decide) (by decide) rfl (Nat.le_of_ble_eq_true rfl) (by omega) (by omega) d_Md_at_30 (fun ad30 => ?_)
      refine x_nf (ws' := [((ob0 0), .inr (8, [.ref (ob0 1), .ref (ob0 2), .ref (ob0 3), .ref (ob0 4), .ref (ob0 5), .ref (ob0 6), .ref (ob0 7), .ref (ob0 8), .ref (ob0 9), .int (Md_end s0), .int (Md_nodes s0), .ref (ob0 10), .ref (ob0 11), .int (Md_fields s0), .ref (ob0 12), .ref (ob0 13), .int (Md_pushed s0), .ref (ob0 14), .int (Md_touches s0), .ref (ob0 15), .ref (ob0 16), .ref (ob0 17), .ref (ob0 18), .ref (ad0 0), .ref (ad0 1), .int (Md_length s0)])), ((ob0 1), .inl (cA 1, (Md_kinds s0).1, .inl (Md_kinds s0).2)), ((ob0 2), .inl (cA 0, (Md_values s0).1, .inl (Md_values s0).2)), ((ob0 3), .inl (cA 0, (Md_firsts s0).1, .inl (Md_firsts s0).2)), ((ob0 4), .inl (cA 0, (Md_manies s0).1, .inl (Md_manies s0).2)), ((ob0 5), .inl (cA 2, (Md_said s0).1, .inl (Md_said s0).2)), ((ob0 6), .inl (cA 2, (Md_marked s0).1, .inl (Md_marked s0).2)), ((ob0 7), .inl (cA 0, (Md_leaders s0).1, .inl (Md_leaders s0).2)), ((ob0 8), .inl (cA 0, (Md_trial s0).1, .inl (Md_trial s0).2)), ((ob0 9), .inl (cA 0, (Md_shown s0).1, .inl (Md_shown s0).2)), ((ob0 10), .inl (cA 0, (Md_features s0).1, .inl (Md_features s0).2)), ((ob0 11), .inl (cA 0, (Md_parts s0).1, .inl (Md_parts s0).2)), ((ob0 12), .inl (cA 0, (Md_pushedFeatures s0).1, .inl (Md_pushedFeatures s0).2)), ((ob0 13), .inl (cA 0, (Md_pushedParts s0).1, .inl (Md_pushedParts s0).2)), ((ob0 14), .inl (cA 0, (Md_touched s0).1, .inl (Md_touched s0).2)), ((ob0 15), .inl (cA 0, (Md_reached s0).1, .inl (Md_reached s0).2)), ((ob0 16), .inl (cA 0, (Md_blocks s0).1, .inl (Md_blocks s0).2)), ((ob0 17), .inl (cA 0, (Md_newBlocks s0).1, .inl (Md_newBlocks s0).2)), ((ob0 18), .inl (cA 0, (Md_places s0).1, .inl (Md_places s0).2)), ((ad0 0), .inl (cA 0, (Md_written s0).1, .inl (Md_written s0).2)), ((ad0 1), .inl (cA 0, (Md_other s0).1, .inl (Md_other s0).2))]) (st' := [.int o26]) rfl rfl ?_
      refine x_istore (lv' := [(7, .int o26), (0, .ref (ob0 0)), (1, .int y1), (2, .long y2), (4, .int x4), (5, .long x5)]) F d_Md_at_33 (by decide) rfl ?_
      refine x_lload F d_Md_at_35 5 rfl ?_
      refine x_ldc2 (v := (255 : Int64)) F kw_816 d_Md_at_37 ?_
      refine x_land F d_Md_at_40 ?_
      refine x_l2i (v := ((x5 &&& (255 : Int64))).toInt32) F d_Md_at_41 rfl ?_
      refine x_istore (lv' := [(8, .int ((x5 &&& (255 : Int64))).toInt32), (7, .int o26), (0, .ref (ob0 0)), (1, .int y1), (2, .long y2), (4, .int x4), (5, .long x5)]) F d_Md_at_42 (by decide) rfl ?_
      refine x_aload_n F d_Md_at_44 2 rfl rfl ?_
      refine x_get F ck_Md hin_Md 0 0 rfl (by decide) kw_634 rfl rfl d_Md_at_45 ?_
      refine x_iload F d_Md_at_48 1 rfl ?_
      replace hm := xm_rd_some hm
      obtain ⟨v31, e_v31, b_v31, hm⟩ := hm
      refine x_bald (x := (Md_kinds s0)) F 1 rfl e_v31 b_v31 d_Md_at_50 ?_
      refine x_iconst (v := (3 : Int32)) F d_Md_at_51 (by decide) ?_
      refine x_icmp_lt F 67 d_Md_at_52 (by decide) (fun c32 => ?_) (fun c32 => ?_)
      · replace hm := xm_t hm c32
        refine x_iconst (v := (-1 : Int32)) F d_Md_at_67 (by decide) ?_
        replace hm := xm_p_some hm
        obtain ⟨eo, c_o, d_o⟩ := hm
        refine x_sub [0, 1, 2, 3, 4, 5, 6, 7, 8, 9, 10, 11, 12, 13, 14, 15, 16, 17, 18, 19, 20] (by decide) ?_ (x_cs (by omega) (by omega) (KR _ eo (fun _ => 0) _ _ (xz_i _) d_Md_at_68))
        rfl
      · replace hm := xm_f hm c32
        refine x_iload F d_Md_at_55 0 rfl ?_
        refine x_aload_n F d_Md_at_57 2 rfl rfl ?_
        refine x_get F ck_Md hin_Md 0 3 rfl (by decide) kw_637 rfl rfl d_Md_at_58 ?_
        refine x_iload F d_Md_at_61 1 rfl ?_
        replace hm := xm_rd_some hm
        obtain ⟨v33, e_v33, b_v33, hm⟩ := hm
        refine x_iald (x := (Md_manies s0)) F 4 rfl e_v33 b_v33 d_Md_at_63 ?_
        refine x_icmp_le F 69 d_Md_at_64 (by decide) (fun c34 => ?_) (fun c34 => ?_)
        · replace hm := xm_t hm c34
          refine x_aload_n F d_Md_at_69 2 rfl rfl ?_
          refine x_get F ck_Md hin_Md 0 12 rfl (by decide) kw_646 rfl rfl d_Md_at_70 ?_
          refine x_aload_n F d_Md_at_73 2 rfl rfl ?_
          refine x_get F ck_Md hin_Md 0 2 rfl (by decide) kw_636 rfl rfl d_Md_at_74 ?_
          refine x_iload F d_Md_at_77 1 rfl ?_
          replace hm := xm_rd_some hm
          obtain ⟨v35, e_v35, b_v35, hm⟩ := hm
          refine x_iald (x := (Md_firsts s0)) F 3 rfl e_v35 b_v35 d_Md_at_79 ?_
          refine x_iload F d_Md_at_80 0 rfl ?_
          refine x_iadd F d_Md_at_82 ?_
          refine x_iconst (v := (1 : Int32)) F d_Md_at_83 (by decide) ?_
          refine x_isub F d_Md_at_84 ?_
          replace hm := xm_rd_some hm
          obtain ⟨v36, e_v36, b_v36, hm⟩ := hm
          refine x_iald (x := (Md_parts s0)) F 11 rfl e_v36 b_v36 d_Md_at_85 ?_
          refine x_istore (lv' := [(4, .int v36), (8, .int ((x5 &&& (255 : Int64))).toInt32), (7, .int o26), (0, .ref (ob0 0)), (1, .int y1), (2, .long y2), (5, .long x5)]) F d_Md_at_86 (by decide) rfl ?_
          refine x_lload F d_Md_at_88 6 rfl ?_
          refine x_bipush (v := (8 : Int32)) F d_Md_at_90 (by decide) ?_
          refine x_lushr (v := (x5.toUInt64 >>> ((8 : Int32).toInt64.toUInt64 &&& Int64.toUInt64 63)).toInt64) F d_Md_at_92 rfl ?_
          refine x_lstore (lv' := [(5, .long (x5.toUInt64 >>> ((8 : Int32).toInt64.toUInt64 &&& Int64.toUInt64 63)).toInt64), (4, .int v36), (8, .int ((x5 &&& (255 : Int64))).toInt32), (7, .int o26), (0, .ref (ob0 0)), (1, .int y1), (2, .long y2)]) F d_Md_at_93 (by decide) rfl ?_
          refine x_goto F 16 d_Md_at_95 (by decide) ?_
          refine x_sub [0, 1, 2, 3, 4, 5, 6, 7, 8, 9, 10, 11, 12, 13, 14, 15, 16, 17, 18, 19, 20] (by decide) ?_ (x_lv [4, 5, 6, 1, 0] ?_ (ih v36 (x5.toUInt64 >>> ((8 : Int32).toInt64.toUInt64 &&& Int64.toUInt64 63)).toInt64  _ _ out k28 hm (by omega) (by omega) (fun e he ad => x_cs (by omega) (by omega) (KX e he ad)) (fun r hr ad pc lv hn hd => x_cs (by omega) (by omega) (KR r hr ad pc lv hn hd))))
          · rfl
          · rfl
        · replace hm := xm_f hm c34
          refine x_iconst (v := (-1 : Int32)) F d_Md_at_67 (by decide) ?_
          replace hm := xm_p_some hm
          obtain ⟨eo, c_o, d_o⟩ := hm
          refine x_sub [0, 1, 2, 3, 4, 5, 6, 7, 8, 9, 10, 11, 12, 13, 14, 15, 16, 17, 18, 19, 20] (by decide) ?_ (x_cs (by omega) (by omega) (KR _ eo (fun _ => 0) _ _ (xz_i _) d_Md_at_68))
          rfl
set_option maxHeartbeats 4000000 in
set_option maxRecDepth 100000 in
theorem c_Md_at (l : Launch) (D : va_G) (cA : Nat → ClassId) (n : Nat) (ob0 ad0 : Nat → Nat) (s0 : S_Md) (p0 : Int32) (p1 : Int64) (out : Int32) (k : KC) (hm : m_Md_at n s0 p0 p1 = some (out, k)) : XM l D cA y_Md_at b_Md_at 9 (some FieldType.int) 1 22 [.ref (ob0 0), .int p0, .long p1] ((w_Md cA ob0 ad0  s0)) k (fun _ => some (.int out)) (fun ad => (w_Md cA ob0 ad0  s0)) := by
  refine x_met (cc := b_Md_at) (nL := 9) (ret := (some FieldType.int)) R_Md (by decide) (Nat.le_of_ble_eq_true rfl) rfl (fun X F I E => ?_)
  unfold m_Md_at at hm
  refine x_nf2 (ws' := [((ob0 0), .inr (8, [.ref (ob0 1), .ref (ob0 2), .ref (ob0 3), .ref (ob0 4), .ref (ob0 5), .ref (ob0 6), .ref (ob0 7), .ref (ob0 8), .ref (ob0 9), .int (Md_end s0), .int (Md_nodes s0), .ref (ob0 10), .ref (ob0 11), .int (Md_fields s0), .ref (ob0 12), .ref (ob0 13), .int (Md_pushed s0), .ref (ob0 14), .int (Md_touches s0), .ref (ob0 15), .ref (ob0 16), .ref (ob0 17), .ref (ob0 18), .ref (ad0 0), .ref (ad0 1), .int (Md_length s0)])), ((ob0 1), .inl (cA 1, (Md_kinds s0).1, .inl (Md_kinds s0).2)), ((ob0 2), .inl (cA 0, (Md_values s0).1, .inl (Md_values s0).2)), ((ob0 3), .inl (cA 0, (Md_firsts s0).1, .inl (Md_firsts s0).2)), ((ob0 4), .inl (cA 0, (Md_manies s0).1, .inl (Md_manies s0).2)), ((ob0 5), .inl (cA 2, (Md_said s0).1, .inl (Md_said s0).2)), ((ob0 6), .inl (cA 2, (Md_marked s0).1, .inl (Md_marked s0).2)), ((ob0 7), .inl (cA 0, (Md_leaders s0).1, .inl (Md_leaders s0).2)), ((ob0 8), .inl (cA 0, (Md_trial s0).1, .inl (Md_trial s0).2)), ((ob0 9), .inl (cA 0, (Md_shown s0).1, .inl (Md_shown s0).2)), ((ob0 10), .inl (cA 0, (Md_features s0).1, .inl (Md_features s0).2)), ((ob0 11), .inl (cA 0, (Md_parts s0).1, .inl (Md_parts s0).2)), ((ob0 12), .inl (cA 0, (Md_pushedFeatures s0).1, .inl (Md_pushedFeatures s0).2)), ((ob0 13), .inl (cA 0, (Md_pushedParts s0).1, .inl (Md_pushedParts s0).2)), ((ob0 14), .inl (cA 0, (Md_touched s0).1, .inl (Md_touched s0).2)), ((ob0 15), .inl (cA 0, (Md_reached s0).1, .inl (Md_reached s0).2)), ((ob0 16), .inl (cA 0, (Md_blocks s0).1, .inl (Md_blocks s0).2)), ((ob0 17), .inl (cA 0, (Md_newBlocks s0).1, .inl (Md_newBlocks s0).2)), ((ob0 18), .inl (cA 0, (Md_places s0).1, .inl (Md_places s0).2)), ((ad0 0), .inl (cA 0, (Md_written s0).1, .inl (Md_written s0).2)), ((ad0 1), .inl (cA 0, (Md_other s0).1, .inl (Md_other s0).2))]) (lv' := [(0, .ref (ob0 0)), (1, .int p0), (2, .long p1)]) rfl rfl ?_
  refine x_aload_n F d_Md_at_0 0 rfl rfl ?_
  refine x_iload_n F d_Md_at_1 1 rfl rfl ?_
  replace hm := xm_b_some hm
  obtain ⟨o19, k20, k21, h22, hm, c_o19, d_o19⟩ := hm
  refine x_callV (n := 1) (C := R_Md) (wr := []) F (c_Md_has l D cA n ob0 ad0 s0 p0 o19 k20 h22) kw_742 kw_739 kw_741 kw_20 kw_47 ⟨rfl, by decide, by decide, by decide +kernel⟩ rfl (by decide) (by decide) (ci := 8) rfl rfl 0 rfl [0, 1, 2, 3, 4, 5, 6, 7, 8, 9, 10, 11, 12, 13, 14, 15, 16, 17, 18, 19, 20] [] rfl rfl (by decide) (by decide) (by decide) rfl (Nat.le_of_ble_eq_true rfl) (by omega) (by omega) d_Md_at_2 (fun ad23 => ?_)
  refine x_nf (ws' := [((ob0 0), .inr (8, [.ref (ob0 1), .ref (ob0 2), .ref (ob0 3), .ref (ob0 4), .ref (ob0 5), .ref (ob0 6), .ref (ob0 7), .ref (ob0 8), .ref (ob0 9), .int (Md_end s0), .int (Md_nodes s0), .ref (ob0 10), .ref (ob0 11), .int (Md_fields s0), .ref (ob0 12), .ref (ob0 13), .int (Md_pushed s0), .ref (ob0 14), .int (Md_touches s0), .ref (ob0 15), .ref (ob0 16), .ref (ob0 17), .ref (ob0 18), .ref (ad0 0), .ref (ad0 1), .int (Md_length s0)])), ((ob0 1), .inl (cA 1, (Md_kinds s0).1, .inl (Md_kinds s0).2)), ((ob0 2), .inl (cA 0, (Md_values s0).1, .inl (Md_values s0).2)), ((ob0 3), .inl (cA 0, (Md_firsts s0).1, .inl (Md_firsts s0).2)), ((ob0 4), .inl (cA 0, (Md_manies s0).1, .inl (Md_manies s0).2)), ((ob0 5), .inl (cA 2, (Md_said s0).1, .inl (Md_said s0).2)), ((ob0 6), .inl (cA 2, (Md_marked s0).1, .inl (Md_marked s0).2)), ((ob0 7), .inl (cA 0, (Md_leaders s0).1, .inl (Md_leaders s0).2)), ((ob0 8), .inl (cA 0, (Md_trial s0).1, .inl (Md_trial s0).2)), ((ob0 9), .inl (cA 0, (Md_shown s0).1, .inl (Md_shown s0).2)), ((ob0 10), .inl (cA 0, (Md_features s0).1, .inl (Md_features s0).2)), ((ob0 11), .inl (cA 0, (Md_parts s0).1, .inl (Md_parts s0).2)), ((ob0 12), .inl (cA 0, (Md_pushedFeatures s0).1, .inl (Md_pushedFeatures s0).2)), ((ob0 13), .inl (cA 0, (Md_pushedParts s0).1, .inl (Md_pushedParts s0).2)), ((ob0 14), .inl (cA 0, (Md_touched s0).1, .inl (Md_touched s0).2)), ((ob0 15), .inl (cA 0, (Md_reached s0).1, .inl (Md_reached s0).2)), ((ob0 16), .inl (cA 0, (Md_blocks s0).1, .inl (Md_blocks s0).2)), ((ob0 17), .inl (cA 0, (Md_newBlocks s0).1, .inl (Md_newBlocks s0).2)), ((ob0 18), .inl (cA 0, (Md_places s0).1, .inl (Md_places s0).2)), ((ad0 0), .inl (cA 0, (Md_written s0).1, .inl (Md_written s0).2)), ((ad0 1), .inl (cA 0, (Md_other s0).1, .inl (Md_other s0).2))]) (st' := [.int o19]) rfl rfl ?_
  refine x_if_ne F 10 d_Md_at_5 (by decide) (fun c24 => ?_) (fun c24 => ?_)
  · replace hm := xm_f hm c24
    refine x_iload_n F d_Md_at_10 1 rfl rfl ?_
    refine x_istore (lv' := [(4, .int p0), (0, .ref (ob0 0)), (1, .int p0), (2, .long p1)]) F d_Md_at_11 (by decide) rfl ?_
    refine x_lload_n F d_Md_at_13 3 rfl rfl ?_
    refine x_lstore (lv' := [(5, .long p1), (4, .int p0), (0, .ref (ob0 0)), (1, .int p0), (2, .long p1)]) F d_Md_at_14 (by decide) rfl ?_
    replace hm := xm_b_some hm
    obtain ⟨o37, k38, k39, h40, hm, c_o37, d_o37⟩ := hm
    refine x_sub [0, 1, 2, 3, 4, 5, 6, 7, 8, 9, 10, 11, 12, 13, 14, 15, 16, 17, 18, 19, 20] (by decide) ?_ (x_lv [2, 3, 4, 1, 0] ?_ (wl_Md_at_16 F n ob0 p0 p1 s0 ad0 n p0 p1  _ _ o37 k38 h40 (by omega) (by omega) (fun e42 h44 ad41 => ?_) (fun r43 h44 ad41 pc lv hn hd => ?_)))
    · rfl
    · rfl
    · subst h44
      replace hm := xm_inl hm
      refine x_nf2 (ws' := [((ob0 0), .inr (8, [.ref (ob0 1), .ref (ob0 2), .ref (ob0 3), .ref (ob0 4), .ref (ob0 5), .ref (ob0 6), .ref (ob0 7), .ref (ob0 8), .ref (ob0 9), .int (Md_end s0), .int (Md_nodes s0), .ref (ob0 10), .ref (ob0 11), .int (Md_fields s0), .ref (ob0 12), .ref (ob0 13), .int (Md_pushed s0), .ref (ob0 14), .int (Md_touches s0), .ref (ob0 15), .ref (ob0 16), .ref (ob0 17), .ref (ob0 18), .ref (ad0 0), .ref (ad0 1), .int (Md_length s0)])), ((ob0 1), .inl (cA 1, (Md_kinds s0).1, .inl (Md_kinds s0).2)), ((ob0 2), .inl (cA 0, (Md_values s0).1, .inl (Md_values s0).2)), ((ob0 3), .inl (cA 0, (Md_firsts s0).1, .inl (Md_firsts s0).2)), ((ob0 4), .inl (cA 0, (Md_manies s0).1, .inl (Md_manies s0).2)), ((ob0 5), .inl (cA 2, (Md_said s0).1, .inl (Md_said s0).2)), ((ob0 6), .inl (cA 2, (Md_marked s0).1, .inl (Md_marked s0).2)), ((ob0 7), .inl (cA 0, (Md_leaders s0).1, .inl (Md_leaders s0).2)), ((ob0 8), .inl (cA 0, (Md_trial s0).1, .inl (Md_trial s0).2)), ((ob0 9), .inl (cA 0, (Md_shown s0).1, .inl (Md_shown s0).2)), ((ob0 10), .inl (cA 0, (Md_features s0).1, .inl (Md_features s0).2)), ((ob0 11), .inl (cA 0, (Md_parts s0).1, .inl (Md_parts s0).2)), ((ob0 12), .inl (cA 0, (Md_pushedFeatures s0).1, .inl (Md_pushedFeatures s0).2)), ((ob0 13), .inl (cA 0, (Md_pushedParts s0).1, .inl (Md_pushedParts s0).2)), ((ob0 14), .inl (cA 0, (Md_touched s0).1, .inl (Md_touched s0).2)), ((ob0 15), .inl (cA 0, (Md_reached s0).1, .inl (Md_reached s0).2)), ((ob0 16), .inl (cA 0, (Md_blocks s0).1, .inl (Md_blocks s0).2)), ((ob0 17), .inl (cA 0, (Md_newBlocks s0).1, .inl (Md_newBlocks s0).2)), ((ob0 18), .inl (cA 0, (Md_places s0).1, .inl (Md_places s0).2)), ((ad0 0), .inl (cA 0, (Md_written s0).1, .inl (Md_written s0).2)), ((ad0 1), .inl (cA 0, (Md_other s0).1, .inl (Md_other s0).2))]) (lv' := [(0, .ref (ob0 0)), (1, .int p0), (2, .long p1), (4, .int (e42.1)), (5, .long (e42.2))]) rfl rfl ?_
      refine x_iload F d_Md_at_98 3 rfl ?_
      replace hm := xm_p_some hm
      obtain ⟨eo, c_o, d_o⟩ := hm
      subst eo
      refine x_sub [0, 1, 2, 3, 4, 5, 6, 7, 8, 9, 10, 11, 12, 13, 14, 15, 16, 17, 18, 19, 20] (by decide) ?_ (xe_i E (fun _ => 0) (by omega) (by omega) rfl (xz_i _) d_Md_at_100)
      rfl
    · subst h44
      replace hm := xm_inr hm
      replace hm := xm_p_some hm
      obtain ⟨eo, c_o, d_o⟩ := hm
      subst eo
      exact xe_i E (fun _ => 0) (by omega) (by omega) rfl hn hd
  · replace hm := xm_t hm c24
    refine x_iconst (v := (-1 : Int32)) F d_Md_at_8 (by decide) ?_
    replace hm := xm_p_some hm
    obtain ⟨eo, c_o, d_o⟩ := hm
    subst eo
    refine x_sub [0, 1, 2, 3, 4, 5, 6, 7, 8, 9, 10, 11, 12, 13, 14, 15, 16, 17, 18, 19, 20] (by decide) ?_ (xe_i E (fun _ => 0) (by omega) (by omega) rfl (xz_i _) d_Md_at_9)
    rfl

noncomputable def m_Md_look (n : Nat) (s0 : S_Md) (p0 : Int32) (p1 : Int64) (p2 : Int32) : MO (Int32) := (xm_b (m_Md_at n s0 p0 p1) (fun o26 => (if o26 = (-1 : Int32) then (xm_p (-1 : Int32)) else (xm_b (m_Md_meant n s0 o26) (fun o32 => (if p2 = (0 : Int32) then (xm_rd (Md_kinds s0) o32 (fun v38 => (xm_p v38))) else (if p2 = (1 : Int32) then (xm_rd (Md_kinds s0) o32 (fun v40 => (if v40 = 0 then (xm_p (0 : Int32)) else (xm_rd (Md_values s0) o32 (fun v42 => (xm_p v42)))))) else (if p2 = (2 : Int32) then (xm_rd (Md_kinds s0) o32 (fun v44 => (if (3 : Int32) ≤ v44 then (xm_rd (Md_manies s0) o32 (fun v46 => (xm_p v46))) else (xm_p (0 : Int32))))) else (if p2 = (3 : Int32) then (xm_rd (Md_leaders s0) o26 (fun v48 => (xm_p v48))) else (if p2 = (4 : Int32) then (xm_b (m_Md_isNeeded n s0 o26) (fun o50 => (if o50 = 0 then (xm_p (0 : Int32)) else (xm_p (1 : Int32))))) else (xm_p (-1 : Int32))))))))))))
set_option maxHeartbeats 4000000 in
set_option maxRecDepth 100000 in
theorem c_Md_look (l : Launch) (D : va_G) (cA : Nat → ClassId) (n : Nat) (ob0 ad0 : Nat → Nat) (s0 : S_Md) (p0 : Int32) (p1 : Int64) (p2 : Int32) (out : Int32) (k : KC) (hm : m_Md_look n s0 p0 p1 p2 = some (out, k)) : XM l D cA y_Md_look b_Md_look 7 (some FieldType.int) 2 50 [.ref (ob0 0), .int p0, .long p1, .int p2] ((w_Md cA ob0 ad0  s0)) k (fun _ => some (.int out)) (fun ad => (w_Md cA ob0 ad0  s0)) := by
  refine x_met (cc := b_Md_look) (nL := 7) (ret := (some FieldType.int)) R_Md (by decide) (Nat.le_of_ble_eq_true rfl) rfl (fun X F I E => ?_)
  unfold m_Md_look at hm
  refine x_nf2 (ws' := [((ob0 0), .inr (8, [.ref (ob0 1), .ref (ob0 2), .ref (ob0 3), .ref (ob0 4), .ref (ob0 5), .ref (ob0 6), .ref (ob0 7), .ref (ob0 8), .ref (ob0 9), .int (Md_end s0), .int (Md_nodes s0), .ref (ob0 10), .ref (ob0 11), .int (Md_fields s0), .ref (ob0 12), .ref (ob0 13), .int (Md_pushed s0), .ref (ob0 14), .int (Md_touches s0), .ref (ob0 15), .ref (ob0 16), .ref (ob0 17), .ref (ob0 18), .ref (ad0 0), .ref (ad0 1), .int (Md_length s0)])), ((ob0 1), .inl (cA 1, (Md_kinds s0).1, .inl (Md_kinds s0).2)), ((ob0 2), .inl (cA 0, (Md_values s0).1, .inl (Md_values s0).2)), ((ob0 3), .inl (cA 0, (Md_firsts s0).1, .inl (Md_firsts s0).2)), ((ob0 4), .inl (cA 0, (Md_manies s0).1, .inl (Md_manies s0).2)), ((ob0 5), .inl (cA 2, (Md_said s0).1, .inl (Md_said s0).2)), ((ob0 6), .inl (cA 2, (Md_marked s0).1, .inl (Md_marked s0).2)), ((ob0 7), .inl (cA 0, (Md_leaders s0).1, .inl (Md_leaders s0).2)), ((ob0 8), .inl (cA 0, (Md_trial s0).1, .inl (Md_trial s0).2)), ((ob0 9), .inl (cA 0, (Md_shown s0).1, .inl (Md_shown s0).2)), ((ob0 10), .inl (cA 0, (Md_features s0).1, .inl (Md_features s0).2)), ((ob0 11), .inl (cA 0, (Md_parts s0).1, .inl (Md_parts s0).2)), ((ob0 12), .inl (cA 0, (Md_pushedFeatures s0).1, .inl (Md_pushedFeatures s0).2)), ((ob0 13), .inl (cA 0, (Md_pushedParts s0).1, .inl (Md_pushedParts s0).2)), ((ob0 14), .inl (cA 0, (Md_touched s0).1, .inl (Md_touched s0).2)), ((ob0 15), .inl (cA 0, (Md_reached s0).1, .inl (Md_reached s0).2)), ((ob0 16), .inl (cA 0, (Md_blocks s0).1, .inl (Md_blocks s0).2)), ((ob0 17), .inl (cA 0, (Md_newBlocks s0).1, .inl (Md_newBlocks s0).2)), ((ob0 18), .inl (cA 0, (Md_places s0).1, .inl (Md_places s0).2)), ((ad0 0), .inl (cA 0, (Md_written s0).1, .inl (Md_written s0).2)), ((ad0 1), .inl (cA 0, (Md_other s0).1, .inl (Md_other s0).2))]) (lv' := [(0, .ref (ob0 0)), (1, .int p0), (2, .long p1), (4, .int p2)]) rfl rfl ?_
  refine x_aload_n F d_Md_look_0 0 rfl rfl ?_
  refine x_iload_n F d_Md_look_1 1 rfl rfl ?_
  refine x_lload_n F d_Md_look_2 2 rfl rfl ?_
  replace hm := xm_b_some hm
  obtain ⟨o26, k27, k28, h29, hm, c_o26, d_o26⟩ := hm
  refine x_callV (n := 2) (C := R_Md) (wr := []) F (c_Md_at l D cA n ob0 ad0 s0 p0 p1 o26 k27 h29) kw_815 kw_812 kw_814 kw_29 kw_47 ⟨rfl, by decide, by decide, by decide +kernel⟩ rfl (by decide) (by decide) (ci := 8) rfl rfl 0 rfl [0, 1, 2, 3, 4, 5, 6, 7, 8, 9, 10, 11, 12, 13, 14, 15, 16, 17, 18, 19, 20] [] rfl rfl (by decide) (by decide) (by decide) rfl (Nat.le_of_ble_eq_true rfl) (by omega) (by omega) d_Md_look_3 (fun ad30 => ?_)
  refine x_nf (ws' := [((ob0 0), .inr (8, [.ref (ob0 1), .ref (ob0 2), .ref (ob0 3), .ref (ob0 4), .ref (ob0 5), .ref (ob0 6), .ref (ob0 7), .ref (ob0 8), .ref (ob0 9), .int (Md_end s0), .int (Md_nodes s0), .ref (ob0 10), .ref (ob0 11), .int (Md_fields s0), .ref (ob0 12), .ref (ob0 13), .int (Md_pushed s0), .ref (ob0 14), .int (Md_touches s0), .ref (ob0 15), .ref (ob0 16), .ref (ob0 17), .ref (ob0 18), .ref (ad0 0), .ref (ad0 1), .int (Md_length s0)])), ((ob0 1), .inl (cA 1, (Md_kinds s0).1, .inl (Md_kinds s0).2)), ((ob0 2), .inl (cA 0, (Md_values s0).1, .inl (Md_values s0).2)), ((ob0 3), .inl (cA 0, (Md_firsts s0).1, .inl (Md_firsts s0).2)), ((ob0 4), .inl (cA 0, (Md_manies s0).1, .inl (Md_manies s0).2)), ((ob0 5), .inl (cA 2, (Md_said s0).1, .inl (Md_said s0).2)), ((ob0 6), .inl (cA 2, (Md_marked s0).1, .inl (Md_marked s0).2)), ((ob0 7), .inl (cA 0, (Md_leaders s0).1, .inl (Md_leaders s0).2)), ((ob0 8), .inl (cA 0, (Md_trial s0).1, .inl (Md_trial s0).2)), ((ob0 9), .inl (cA 0, (Md_shown s0).1, .inl (Md_shown s0).2)), ((ob0 10), .inl (cA 0, (Md_features s0).1, .inl (Md_features s0).2)), ((ob0 11), .inl (cA 0, (Md_parts s0).1, .inl (Md_parts s0).2)), ((ob0 12), .inl (cA 0, (Md_pushedFeatures s0).1, .inl (Md_pushedFeatures s0).2)), ((ob0 13), .inl (cA 0, (Md_pushedParts s0).1, .inl (Md_pushedParts s0).2)), ((ob0 14), .inl (cA 0, (Md_touched s0).1, .inl (Md_touched s0).2)), ((ob0 15), .inl (cA 0, (Md_reached s0).1, .inl (Md_reached s0).2)), ((ob0 16), .inl (cA 0, (Md_blocks s0).1, .inl (Md_blocks s0).2)), ((ob0 17), .inl (cA 0, (Md_newBlocks s0).1, .inl (Md_newBlocks s0).2)), ((ob0 18), .inl (cA 0, (Md_places s0).1, .inl (Md_places s0).2)), ((ad0 0), .inl (cA 0, (Md_written s0).1, .inl (Md_written s0).2)), ((ad0 1), .inl (cA 0, (Md_other s0).1, .inl (Md_other s0).2))]) (st' := [.int o26]) rfl rfl ?_
  refine x_istore (lv' := [(5, .int o26), (0, .ref (ob0 0)), (1, .int p0), (2, .long p1), (4, .int p2)]) F d_Md_look_6 (by decide) rfl ?_
  refine x_iload F d_Md_look_8 0 rfl ?_
  refine x_iconst (v := (-1 : Int32)) F d_Md_look_10 (by decide) ?_
  refine x_icmp_ne F 16 d_Md_look_11 (by decide) (fun c31 => ?_) (fun c31 => ?_)
  · replace hm := xm_f hm c31
    refine x_aload_n F d_Md_look_16 1 rfl rfl ?_
    refine x_iload F d_Md_look_17 0 rfl ?_
    replace hm := xm_b_some hm
    obtain ⟨o32, k33, k34, h35, hm, c_o32, d_o32⟩ := hm
    refine x_callV (n := 1) (C := R_Md) (wr := []) F (c_Md_meant l D cA n ob0 ad0 s0 o26 o32 k33 h35) kw_786 kw_783 kw_785 kw_27 kw_47 ⟨rfl, by decide, by decide, by decide +kernel⟩ rfl (by decide) (by decide) (ci := 8) rfl rfl 0 rfl [0, 1, 2, 3, 4, 5, 6, 7, 8, 9, 10, 11, 12, 13, 14, 15, 16, 17, 18, 19, 20] [] rfl rfl (by decide) (by decide) (by decide) rfl (Nat.le_of_ble_eq_true rfl) (by omega) (by omega) d_Md_look_19 (fun ad36 => ?_)
    refine x_nf (ws' := [((ob0 0), .inr (8, [.ref (ob0 1), .ref (ob0 2), .ref (ob0 3), .ref (ob0 4), .ref (ob0 5), .ref (ob0 6), .ref (ob0 7), .ref (ob0 8), .ref (ob0 9), .int (Md_end s0), .int (Md_nodes s0), .ref (ob0 10), .ref (ob0 11), .int (Md_fields s0), .ref (ob0 12), .ref (ob0 13), .int (Md_pushed s0), .ref (ob0 14), .int (Md_touches s0), .ref (ob0 15), .ref (ob0 16), .ref (ob0 17), .ref (ob0 18), .ref (ad0 0), .ref (ad0 1), .int (Md_length s0)])), ((ob0 1), .inl (cA 1, (Md_kinds s0).1, .inl (Md_kinds s0).2)), ((ob0 2), .inl (cA 0, (Md_values s0).1, .inl (Md_values s0).2)), ((ob0 3), .inl (cA 0, (Md_firsts s0).1, .inl (Md_firsts s0).2)), ((ob0 4), .inl (cA 0, (Md_manies s0).1, .inl (Md_manies s0).2)), ((ob0 5), .inl (cA 2, (Md_said s0).1, .inl (Md_said s0).2)), ((ob0 6), .inl (cA 2, (Md_marked s0).1, .inl (Md_marked s0).2)), ((ob0 7), .inl (cA 0, (Md_leaders s0).1, .inl (Md_leaders s0).2)), ((ob0 8), .inl (cA 0, (Md_trial s0).1, .inl (Md_trial s0).2)), ((ob0 9), .inl (cA 0, (Md_shown s0).1, .inl (Md_shown s0).2)), ((ob0 10), .inl (cA 0, (Md_features s0).1, .inl (Md_features s0).2)), ((ob0 11), .inl (cA 0, (Md_parts s0).1, .inl (Md_parts s0).2)), ((ob0 12), .inl (cA 0, (Md_pushedFeatures s0).1, .inl (Md_pushedFeatures s0).2)), ((ob0 13), .inl (cA 0, (Md_pushedParts s0).1, .inl (Md_pushedParts s0).2)), ((ob0 14), .inl (cA 0, (Md_touched s0).1, .inl (Md_touched s0).2)), ((ob0 15), .inl (cA 0, (Md_reached s0).1, .inl (Md_reached s0).2)), ((ob0 16), .inl (cA 0, (Md_blocks s0).1, .inl (Md_blocks s0).2)), ((ob0 17), .inl (cA 0, (Md_newBlocks s0).1, .inl (Md_newBlocks s0).2)), ((ob0 18), .inl (cA 0, (Md_places s0).1, .inl (Md_places s0).2)), ((ad0 0), .inl (cA 0, (Md_written s0).1, .inl (Md_written s0).2)), ((ad0 1), .inl (cA 0, (Md_other s0).1, .inl (Md_other s0).2))]) (st' := [.int o32]) rfl rfl ?_
    refine x_istore (lv' := [(6, .int o32), (5, .int o26), (0, .ref (ob0 0)), (1, .int p0), (2, .long p1), (4, .int p2)]) F d_Md_look_22 (by decide) rfl ?_
    refine x_iload F d_Md_look_24 5 rfl ?_
    by_cases c37 : p2 = (0 : Int32)
    · replace hm := xm_t hm c37
      refine x_tableIn F 60 d_Md_look_26 (by rw [c37]; decide) (by rw [c37]; decide) (by rw [c37]; rfl) (by decide) ?_
      refine x_aload_n F d_Md_look_60 2 rfl rfl ?_
      refine x_get F ck_Md hin_Md 0 0 rfl (by decide) kw_634 rfl rfl d_Md_look_61 ?_
      refine x_iload F d_Md_look_64 0 rfl ?_
      replace hm := xm_rd_some hm
      obtain ⟨v38, e_v38, b_v38, hm⟩ := hm
      refine x_bald (x := (Md_kinds s0)) F 1 rfl e_v38 b_v38 d_Md_look_66 ?_
      replace hm := xm_p_some hm
      obtain ⟨eo, c_o, d_o⟩ := hm
      subst eo
      refine x_sub [0, 1, 2, 3, 4, 5, 6, 7, 8, 9, 10, 11, 12, 13, 14, 15, 16, 17, 18, 19, 20] (by decide) ?_ (xe_i E (fun _ => 0) (by omega) (by omega) rfl (xz_i _) d_Md_look_67)
      rfl
    replace hm := xm_f hm c37
    by_cases c39 : p2 = (1 : Int32)
    · replace hm := xm_t hm c39
      refine x_tableIn F 68 d_Md_look_26 (by rw [c39]; decide) (by rw [c39]; decide) (by rw [c39]; rfl) (by decide) ?_
      refine x_aload_n F d_Md_look_68 2 rfl rfl ?_
      refine x_get F ck_Md hin_Md 0 0 rfl (by decide) kw_634 rfl rfl d_Md_look_69 ?_
      refine x_iload F d_Md_look_72 0 rfl ?_
      replace hm := xm_rd_some hm
      obtain ⟨v40, e_v40, b_v40, hm⟩ := hm
      refine x_bald (x := (Md_kinds s0)) F 1 rfl e_v40 b_v40 d_Md_look_74 ?_
      refine x_if_ne F 82 d_Md_look_75 (by decide) (fun c41 => ?_) (fun c41 => ?_)
      · replace hm := xm_f hm c41
        refine x_aload_n F d_Md_look_82 2 rfl rfl ?_
        refine x_get F ck_Md hin_Md 0 1 rfl (by decide) kw_635 rfl rfl d_Md_look_83 ?_
        refine x_iload F d_Md_look_86 0 rfl ?_
        replace hm := xm_rd_some hm
        obtain ⟨v42, e_v42, b_v42, hm⟩ := hm
        refine x_iald (x := (Md_values s0)) F 2 rfl e_v42 b_v42 d_Md_look_88 ?_
        replace hm := xm_p_some hm
        obtain ⟨eo, c_o, d_o⟩ := hm
        subst eo
        refine x_sub [0, 1, 2, 3, 4, 5, 6, 7, 8, 9, 10, 11, 12, 13, 14, 15, 16, 17, 18, 19, 20] (by decide) ?_ (xe_i E (fun _ => 0) (by omega) (by omega) rfl (xz_i _) d_Md_look_89)
        rfl
      · replace hm := xm_t hm c41
        refine x_iconst (v := (0 : Int32)) F d_Md_look_78 (by decide) ?_
        refine x_goto F 89 d_Md_look_79 (by decide) ?_
        replace hm := xm_p_some hm
        obtain ⟨eo, c_o, d_o⟩ := hm
        subst eo
        refine x_sub [0, 1, 2, 3, 4, 5, 6, 7, 8, 9, 10, 11, 12, 13, 14, 15, 16, 17, 18, 19, 20] (by decide) ?_ (xe_i E (fun _ => 0) (by omega) (by omega) rfl (xz_i _) d_Md_look_89)
        rfl
    replace hm := xm_f hm c39
    by_cases c43 : p2 = (2 : Int32)
    · replace hm := xm_t hm c43
      refine x_tableIn F 90 d_Md_look_26 (by rw [c43]; decide) (by rw [c43]; decide) (by rw [c43]; rfl) (by decide) ?_
      refine x_aload_n F d_Md_look_90 2 rfl rfl ?_
      refine x_get F ck_Md hin_Md 0 0 rfl (by decide) kw_634 rfl rfl d_Md_look_91 ?_
      refine x_iload F d_Md_look_94 0 rfl ?_
      replace hm := xm_rd_some hm
      obtain ⟨v44, e_v44, b_v44, hm⟩ := hm
      refine x_bald (x := (Md_kinds s0)) F 1 rfl e_v44 b_v44 d_Md_look_96 ?_
      refine x_iconst (v := (3 : Int32)) F d_Md_look_97 (by decide) ?_
      refine x_icmp_ge F 105 d_Md_look_98 (by decide) (fun c45 => ?_) (fun c45 => ?_)
      · replace hm := xm_t hm c45
        refine x_aload_n F d_Md_look_105 2 rfl rfl ?_
        refine x_get F ck_Md hin_Md 0 3 rfl (by decide) kw_637 rfl rfl d_Md_look_106 ?_
        refine x_iload F d_Md_look_109 0 rfl ?_
        replace hm := xm_rd_some hm
        obtain ⟨v46, e_v46, b_v46, hm⟩ := hm
        refine x_iald (x := (Md_manies s0)) F 4 rfl e_v46 b_v46 d_Md_look_111 ?_
        replace hm := xm_p_some hm
        obtain ⟨eo, c_o, d_o⟩ := hm
        subst eo
        refine x_sub [0, 1, 2, 3, 4, 5, 6, 7, 8, 9, 10, 11, 12, 13, 14, 15, 16, 17, 18, 19, 20] (by decide) ?_ (xe_i E (fun _ => 0) (by omega) (by omega) rfl (xz_i _) d_Md_look_112)
        rfl
      · replace hm := xm_f hm c45
        refine x_iconst (v := (0 : Int32)) F d_Md_look_101 (by decide) ?_
        refine x_goto F 112 d_Md_look_102 (by decide) ?_
        replace hm := xm_p_some hm
        obtain ⟨eo, c_o, d_o⟩ := hm
        subst eo
        refine x_sub [0, 1, 2, 3, 4, 5, 6, 7, 8, 9, 10, 11, 12, 13, 14, 15, 16, 17, 18, 19, 20] (by decide) ?_ (xe_i E (fun _ => 0) (by omega) (by omega) rfl (xz_i _) d_Md_look_112)
        rfl
    replace hm := xm_f hm c43
    by_cases c47 : p2 = (3 : Int32)
    · replace hm := xm_t hm c47
      refine x_tableIn F 113 d_Md_look_26 (by rw [c47]; decide) (by rw [c47]; decide) (by rw [c47]; rfl) (by decide) ?_
      refine x_aload_n F d_Md_look_113 2 rfl rfl ?_
      refine x_get F ck_Md hin_Md 0 6 rfl (by decide) kw_640 rfl rfl d_Md_look_114 ?_
      refine x_iload F d_Md_look_117 1 rfl ?_
      replace hm := xm_rd_some hm
      obtain ⟨v48, e_v48, b_v48, hm⟩ := hm
      refine x_iald (x := (Md_leaders s0)) F 7 rfl e_v48 b_v48 d_Md_look_119 ?_
      replace hm := xm_p_some hm
      obtain ⟨eo, c_o, d_o⟩ := hm
      subst eo
      refine x_sub [0, 1, 2, 3, 4, 5, 6, 7, 8, 9, 10, 11, 12, 13, 14, 15, 16, 17, 18, 19, 20] (by decide) ?_ (xe_i E (fun _ => 0) (by omega) (by omega) rfl (xz_i _) d_Md_look_120)
      rfl
    replace hm := xm_f hm c47
    by_cases c49 : p2 = (4 : Int32)
    · replace hm := xm_t hm c49
      refine x_tableIn F 121 d_Md_look_26 (by rw [c49]; decide) (by rw [c49]; decide) (by rw [c49]; rfl) (by decide) ?_
      refine x_aload_n F d_Md_look_121 2 rfl rfl ?_
      refine x_iload F d_Md_look_122 1 rfl ?_
      replace hm := xm_b_some hm
      obtain ⟨o50, k51, k52, h53, hm, c_o50, d_o50⟩ := hm
      refine x_callV (n := 1) (C := R_Md) (wr := []) F (c_Md_isNeeded l D cA n ob0 ad0 s0 o26 o50 k51 h53) kw_803 kw_800 kw_802 kw_28 kw_47 ⟨rfl, by decide, by decide, by decide +kernel⟩ rfl (by decide) (by decide) (ci := 8) rfl rfl 0 rfl [0, 1, 2, 3, 4, 5, 6, 7, 8, 9, 10, 11, 12, 13, 14, 15, 16, 17, 18, 19, 20] [] rfl rfl (by decide) (by decide) (by decide) rfl (Nat.le_of_ble_eq_true rfl) (by omega) (by omega) d_Md_look_124 (fun ad54 => ?_)
      refine x_nf (ws' := [((ob0 0), .inr (8, [.ref (ob0 1), .ref (ob0 2), .ref (ob0 3), .ref (ob0 4), .ref (ob0 5), .ref (ob0 6), .ref (ob0 7), .ref (ob0 8), .ref (ob0 9), .int (Md_end s0), .int (Md_nodes s0), .ref (ob0 10), .ref (ob0 11), .int (Md_fields s0), .ref (ob0 12), .ref (ob0 13), .int (Md_pushed s0), .ref (ob0 14), .int (Md_touches s0), .ref (ob0 15), .ref (ob0 16), .ref (ob0 17), .ref (ob0 18), .ref (ad0 0), .ref (ad0 1), .int (Md_length s0)])), ((ob0 1), .inl (cA 1, (Md_kinds s0).1, .inl (Md_kinds s0).2)), ((ob0 2), .inl (cA 0, (Md_values s0).1, .inl (Md_values s0).2)), ((ob0 3), .inl (cA 0, (Md_firsts s0).1, .inl (Md_firsts s0).2)), ((ob0 4), .inl (cA 0, (Md_manies s0).1, .inl (Md_manies s0).2)), ((ob0 5), .inl (cA 2, (Md_said s0).1, .inl (Md_said s0).2)), ((ob0 6), .inl (cA 2, (Md_marked s0).1, .inl (Md_marked s0).2)), ((ob0 7), .inl (cA 0, (Md_leaders s0).1, .inl (Md_leaders s0).2)), ((ob0 8), .inl (cA 0, (Md_trial s0).1, .inl (Md_trial s0).2)), ((ob0 9), .inl (cA 0, (Md_shown s0).1, .inl (Md_shown s0).2)), ((ob0 10), .inl (cA 0, (Md_features s0).1, .inl (Md_features s0).2)), ((ob0 11), .inl (cA 0, (Md_parts s0).1, .inl (Md_parts s0).2)), ((ob0 12), .inl (cA 0, (Md_pushedFeatures s0).1, .inl (Md_pushedFeatures s0).2)), ((ob0 13), .inl (cA 0, (Md_pushedParts s0).1, .inl (Md_pushedParts s0).2)), ((ob0 14), .inl (cA 0, (Md_touched s0).1, .inl (Md_touched s0).2)), ((ob0 15), .inl (cA 0, (Md_reached s0).1, .inl (Md_reached s0).2)), ((ob0 16), .inl (cA 0, (Md_blocks s0).1, .inl (Md_blocks s0).2)), ((ob0 17), .inl (cA 0, (Md_newBlocks s0).1, .inl (Md_newBlocks s0).2)), ((ob0 18), .inl (cA 0, (Md_places s0).1, .inl (Md_places s0).2)), ((ad0 0), .inl (cA 0, (Md_written s0).1, .inl (Md_written s0).2)), ((ad0 1), .inl (cA 0, (Md_other s0).1, .inl (Md_other s0).2))]) (st' := [.int o50]) rfl rfl ?_
      refine x_if_eq F 134 d_Md_look_127 (by decide) (fun c55 => ?_) (fun c55 => ?_)
      · replace hm := xm_t hm c55
        refine x_iconst (v := (0 : Int32)) F d_Md_look_134 (by decide) ?_
        replace hm := xm_p_some hm
        obtain ⟨eo, c_o, d_o⟩ := hm
        subst eo
        refine x_sub [0, 1, 2, 3, 4, 5, 6, 7, 8, 9, 10, 11, 12, 13, 14, 15, 16, 17, 18, 19, 20] (by decide) ?_ (xe_i E (fun _ => 0) (by omega) (by omega) rfl (xz_i _) d_Md_look_135)
        rfl
      · replace hm := xm_f hm c55
        refine x_iconst (v := (1 : Int32)) F d_Md_look_130 (by decide) ?_
        refine x_goto F 135 d_Md_look_131 (by decide) ?_
        replace hm := xm_p_some hm
        obtain ⟨eo, c_o, d_o⟩ := hm
        subst eo
        refine x_sub [0, 1, 2, 3, 4, 5, 6, 7, 8, 9, 10, 11, 12, 13, 14, 15, 16, 17, 18, 19, 20] (by decide) ?_ (xe_i E (fun _ => 0) (by omega) (by omega) rfl (xz_i _) d_Md_look_135)
        rfl
    replace hm := xm_f hm c49
    refine x_tableOut F 136 d_Md_look_26 (by have := lv_neT c37 (show (0 : Int32).toInt = 0 from by decide); have := lv_neT c39 (show (1 : Int32).toInt = 1 from by decide); have := lv_neT c43 (show (2 : Int32).toInt = 2 from by decide); have := lv_neT c47 (show (3 : Int32).toInt = 3 from by decide); have := lv_neT c49 (show (4 : Int32).toInt = 4 from by decide); omega) (by decide) ?_
    refine x_iconst (v := (-1 : Int32)) F d_Md_look_136 (by decide) ?_
    replace hm := xm_p_some hm
    obtain ⟨eo, c_o, d_o⟩ := hm
    subst eo
    refine x_sub [0, 1, 2, 3, 4, 5, 6, 7, 8, 9, 10, 11, 12, 13, 14, 15, 16, 17, 18, 19, 20] (by decide) ?_ (xe_i E (fun _ => 0) (by omega) (by omega) rfl (xz_i _) d_Md_look_137)
    rfl
  · replace hm := xm_t hm c31
    refine x_iconst (v := (-1 : Int32)) F d_Md_look_14 (by decide) ?_
    replace hm := xm_p_some hm
    obtain ⟨eo, c_o, d_o⟩ := hm
    subst eo
    refine x_sub [0, 1, 2, 3, 4, 5, 6, 7, 8, 9, 10, 11, 12, 13, 14, 15, 16, 17, 18, 19, 20] (by decide) ?_ (xe_i E (fun _ => 0) (by omega) (by omega) rfl (xz_i _) d_Md_look_15)
    rfl

noncomputable def m_Md_feature (n : Nat) (s0 : S_Md) (p0 : Int32) (p1 : Int64) (p2 : Int32) : MO (Int32) := (xm_b (m_Md_at n s0 p0 p1) (fun o20 => (if o20 = (-1 : Int32) then (xm_p (0 : Int32)) else (xm_b (m_Md_meant n s0 o20) (fun o26 => (if o26 = (-1 : Int32) then (xm_p (0 : Int32)) else (xm_rd (Md_kinds s0) o26 (fun v32 => (if v32 < (3 : Int32) then (xm_p (0 : Int32)) else (if p2 < 0 then (xm_p (0 : Int32)) else (xm_rd (Md_manies s0) o26 (fun v35 => (if p2 < v35 then (xm_rd (Md_firsts s0) o26 (fun v37 => (xm_rd (Md_features s0) (v37 + p2) (fun v38 => (xm_p v38))))) else (xm_p (0 : Int32)))))))))))))))
set_option maxHeartbeats 4000000 in
set_option maxRecDepth 100000 in
theorem c_Md_feature (l : Launch) (D : va_G) (cA : Nat → ClassId) (n : Nat) (ob0 ad0 : Nat → Nat) (s0 : S_Md) (p0 : Int32) (p1 : Int64) (p2 : Int32) (out : Int32) (k : KC) (hm : m_Md_feature n s0 p0 p1 p2 = some (out, k)) : XM l D cA y_Md_feature b_Md_feature 7 (some FieldType.int) 2 50 [.ref (ob0 0), .int p0, .long p1, .int p2] ((w_Md cA ob0 ad0  s0)) k (fun _ => some (.int out)) (fun ad => (w_Md cA ob0 ad0  s0)) := by
  refine x_met (cc := b_Md_feature) (nL := 7) (ret := (some FieldType.int)) R_Md (by decide) (Nat.le_of_ble_eq_true rfl) rfl (fun X F I E => ?_)
  unfold m_Md_feature at hm
  refine x_nf2 (ws' := [((ob0 0), .inr (8, [.ref (ob0 1), .ref (ob0 2), .ref (ob0 3), .ref (ob0 4), .ref (ob0 5), .ref (ob0 6), .ref (ob0 7), .ref (ob0 8), .ref (ob0 9), .int (Md_end s0), .int (Md_nodes s0), .ref (ob0 10), .ref (ob0 11), .int (Md_fields s0), .ref (ob0 12), .ref (ob0 13), .int (Md_pushed s0), .ref (ob0 14), .int (Md_touches s0), .ref (ob0 15), .ref (ob0 16), .ref (ob0 17), .ref (ob0 18), .ref (ad0 0), .ref (ad0 1), .int (Md_length s0)])), ((ob0 1), .inl (cA 1, (Md_kinds s0).1, .inl (Md_kinds s0).2)), ((ob0 2), .inl (cA 0, (Md_values s0).1, .inl (Md_values s0).2)), ((ob0 3), .inl (cA 0, (Md_firsts s0).1, .inl (Md_firsts s0).2)), ((ob0 4), .inl (cA 0, (Md_manies s0).1, .inl (Md_manies s0).2)), ((ob0 5), .inl (cA 2, (Md_said s0).1, .inl (Md_said s0).2)), ((ob0 6), .inl (cA 2, (Md_marked s0).1, .inl (Md_marked s0).2)), ((ob0 7), .inl (cA 0, (Md_leaders s0).1, .inl (Md_leaders s0).2)), ((ob0 8), .inl (cA 0, (Md_trial s0).1, .inl (Md_trial s0).2)), ((ob0 9), .inl (cA 0, (Md_shown s0).1, .inl (Md_shown s0).2)), ((ob0 10), .inl (cA 0, (Md_features s0).1, .inl (Md_features s0).2)), ((ob0 11), .inl (cA 0, (Md_parts s0).1, .inl (Md_parts s0).2)), ((ob0 12), .inl (cA 0, (Md_pushedFeatures s0).1, .inl (Md_pushedFeatures s0).2)), ((ob0 13), .inl (cA 0, (Md_pushedParts s0).1, .inl (Md_pushedParts s0).2)), ((ob0 14), .inl (cA 0, (Md_touched s0).1, .inl (Md_touched s0).2)), ((ob0 15), .inl (cA 0, (Md_reached s0).1, .inl (Md_reached s0).2)), ((ob0 16), .inl (cA 0, (Md_blocks s0).1, .inl (Md_blocks s0).2)), ((ob0 17), .inl (cA 0, (Md_newBlocks s0).1, .inl (Md_newBlocks s0).2)), ((ob0 18), .inl (cA 0, (Md_places s0).1, .inl (Md_places s0).2)), ((ad0 0), .inl (cA 0, (Md_written s0).1, .inl (Md_written s0).2)), ((ad0 1), .inl (cA 0, (Md_other s0).1, .inl (Md_other s0).2))]) (lv' := [(0, .ref (ob0 0)), (1, .int p0), (2, .long p1), (4, .int p2)]) rfl rfl ?_
  refine x_aload_n F d_Md_feature_0 0 rfl rfl ?_
  refine x_iload_n F d_Md_feature_1 1 rfl rfl ?_
  refine x_lload_n F d_Md_feature_2 2 rfl rfl ?_
  replace hm := xm_b_some hm
  obtain ⟨o20, k21, k22, h23, hm, c_o20, d_o20⟩ := hm
  refine x_callV (n := 2) (C := R_Md) (wr := []) F (c_Md_at l D cA n ob0 ad0 s0 p0 p1 o20 k21 h23) kw_815 kw_812 kw_814 kw_29 kw_47 ⟨rfl, by decide, by decide, by decide +kernel⟩ rfl (by decide) (by decide) (ci := 8) rfl rfl 0 rfl [0, 1, 2, 3, 4, 5, 6, 7, 8, 9, 10, 11, 12, 13, 14, 15, 16, 17, 18, 19, 20] [] rfl rfl (by decide) (by decide) (by decide) rfl (Nat.le_of_ble_eq_true rfl) (by omega) (by omega) d_Md_feature_3 (fun ad24 => ?_)
  refine x_nf (ws' := [((ob0 0), .inr (8, [.ref (ob0 1), .ref (ob0 2), .ref (ob0 3), .ref (ob0 4), .ref (ob0 5), .ref (ob0 6), .ref (ob0 7), .ref (ob0 8), .ref (ob0 9), .int (Md_end s0), .int (Md_nodes s0), .ref (ob0 10), .ref (ob0 11), .int (Md_fields s0), .ref (ob0 12), .ref (ob0 13), .int (Md_pushed s0), .ref (ob0 14), .int (Md_touches s0), .ref (ob0 15), .ref (ob0 16), .ref (ob0 17), .ref (ob0 18), .ref (ad0 0), .ref (ad0 1), .int (Md_length s0)])), ((ob0 1), .inl (cA 1, (Md_kinds s0).1, .inl (Md_kinds s0).2)), ((ob0 2), .inl (cA 0, (Md_values s0).1, .inl (Md_values s0).2)), ((ob0 3), .inl (cA 0, (Md_firsts s0).1, .inl (Md_firsts s0).2)), ((ob0 4), .inl (cA 0, (Md_manies s0).1, .inl (Md_manies s0).2)), ((ob0 5), .inl (cA 2, (Md_said s0).1, .inl (Md_said s0).2)), ((ob0 6), .inl (cA 2, (Md_marked s0).1, .inl (Md_marked s0).2)), ((ob0 7), .inl (cA 0, (Md_leaders s0).1, .inl (Md_leaders s0).2)), ((ob0 8), .inl (cA 0, (Md_trial s0).1, .inl (Md_trial s0).2)), ((ob0 9), .inl (cA 0, (Md_shown s0).1, .inl (Md_shown s0).2)), ((ob0 10), .inl (cA 0, (Md_features s0).1, .inl (Md_features s0).2)), ((ob0 11), .inl (cA 0, (Md_parts s0).1, .inl (Md_parts s0).2)), ((ob0 12), .inl (cA 0, (Md_pushedFeatures s0).1, .inl (Md_pushedFeatures s0).2)), ((ob0 13), .inl (cA 0, (Md_pushedParts s0).1, .inl (Md_pushedParts s0).2)), ((ob0 14), .inl (cA 0, (Md_touched s0).1, .inl (Md_touched s0).2)), ((ob0 15), .inl (cA 0, (Md_reached s0).1, .inl (Md_reached s0).2)), ((ob0 16), .inl (cA 0, (Md_blocks s0).1, .inl (Md_blocks s0).2)), ((ob0 17), .inl (cA 0, (Md_newBlocks s0).1, .inl (Md_newBlocks s0).2)), ((ob0 18), .inl (cA 0, (Md_places s0).1, .inl (Md_places s0).2)), ((ad0 0), .inl (cA 0, (Md_written s0).1, .inl (Md_written s0).2)), ((ad0 1), .inl (cA 0, (Md_other s0).1, .inl (Md_other s0).2))]) (st' := [.int o20]) rfl rfl ?_
  refine x_istore (lv' := [(5, .int o20), (0, .ref (ob0 0)), (1, .int p0), (2, .long p1), (4, .int p2)]) F d_Md_feature_6 (by decide) rfl ?_
  refine x_iload F d_Md_feature_8 0 rfl ?_
  refine x_iconst (v := (-1 : Int32)) F d_Md_feature_10 (by decide) ?_
  refine x_icmp_ne F 18 d_Md_feature_11 (by decide) (fun c25 => ?_) (fun c25 => ?_)
  · replace hm := xm_f hm c25
    refine x_aload_n F d_Md_feature_18 1 rfl rfl ?_
    refine x_iload F d_Md_feature_19 0 rfl ?_
    replace hm := xm_b_some hm
    obtain ⟨o26, k27, k28, h29, hm, c_o26, d_o26⟩ := hm
    refine x_callV (n := 1) (C := R_Md) (wr := []) F (c_Md_meant l D cA n ob0 ad0 s0 o20 o26 k27 h29) kw_786 kw_783 kw_785 kw_27 kw_47 ⟨rfl, by decide, by decide, by decide +kernel⟩ rfl (by decide) (by decide) (ci := 8) rfl rfl 0 rfl [0, 1, 2, 3, 4, 5, 6, 7, 8, 9, 10, 11, 12, 13, 14, 15, 16, 17, 18, 19, 20] [] rfl rfl (by decide) (by decide) (by decide) rfl (Nat.le_of_ble_eq_true rfl) (by omega) (by omega) d_Md_feature_21 (fun ad30 => ?_)
    refine x_nf (ws' := [((ob0 0), .inr (8, [.ref (ob0 1), .ref (ob0 2), .ref (ob0 3), .ref (ob0 4), .ref (ob0 5), .ref (ob0 6), .ref (ob0 7), .ref (ob0 8), .ref (ob0 9), .int (Md_end s0), .int (Md_nodes s0), .ref (ob0 10), .ref (ob0 11), .int (Md_fields s0), .ref (ob0 12), .ref (ob0 13), .int (Md_pushed s0), .ref (ob0 14), .int (Md_touches s0), .ref (ob0 15), .ref (ob0 16), .ref (ob0 17), .ref (ob0 18), .ref (ad0 0), .ref (ad0 1), .int (Md_length s0)])), ((ob0 1), .inl (cA 1, (Md_kinds s0).1, .inl (Md_kinds s0).2)), ((ob0 2), .inl (cA 0, (Md_values s0).1, .inl (Md_values s0).2)), ((ob0 3), .inl (cA 0, (Md_firsts s0).1, .inl (Md_firsts s0).2)), ((ob0 4), .inl (cA 0, (Md_manies s0).1, .inl (Md_manies s0).2)), ((ob0 5), .inl (cA 2, (Md_said s0).1, .inl (Md_said s0).2)), ((ob0 6), .inl (cA 2, (Md_marked s0).1, .inl (Md_marked s0).2)), ((ob0 7), .inl (cA 0, (Md_leaders s0).1, .inl (Md_leaders s0).2)), ((ob0 8), .inl (cA 0, (Md_trial s0).1, .inl (Md_trial s0).2)), ((ob0 9), .inl (cA 0, (Md_shown s0).1, .inl (Md_shown s0).2)), ((ob0 10), .inl (cA 0, (Md_features s0).1, .inl (Md_features s0).2)), ((ob0 11), .inl (cA 0, (Md_parts s0).1, .inl (Md_parts s0).2)), ((ob0 12), .inl (cA 0, (Md_pushedFeatures s0).1, .inl (Md_pushedFeatures s0).2)), ((ob0 13), .inl (cA 0, (Md_pushedParts s0).1, .inl (Md_pushedParts s0).2)), ((ob0 14), .inl (cA 0, (Md_touched s0).1, .inl (Md_touched s0).2)), ((ob0 15), .inl (cA 0, (Md_reached s0).1, .inl (Md_reached s0).2)), ((ob0 16), .inl (cA 0, (Md_blocks s0).1, .inl (Md_blocks s0).2)), ((ob0 17), .inl (cA 0, (Md_newBlocks s0).1, .inl (Md_newBlocks s0).2)), ((ob0 18), .inl (cA 0, (Md_places s0).1, .inl (Md_places s0).2)), ((ad0 0), .inl (cA 0, (Md_written s0).1, .inl (Md_written s0).2)), ((ad0 1), .inl (cA 0, (Md_other s0).1, .inl (Md_other s0).2))]) (st' := [.int o26]) rfl rfl ?_
    refine x_istore (lv' := [(6, .int o26), (5, .int o20), (0, .ref (ob0 0)), (1, .int p0), (2, .long p1), (4, .int p2)]) F d_Md_feature_24 (by decide) rfl ?_
    refine x_iload F d_Md_feature_26 0 rfl ?_
    refine x_iconst (v := (-1 : Int32)) F d_Md_feature_28 (by decide) ?_
    refine x_icmp_eq F 60 d_Md_feature_29 (by decide) (fun c31 => ?_) (fun c31 => ?_)
    · replace hm := xm_t hm c31
      refine x_iconst (v := (0 : Int32)) F d_Md_feature_60 (by decide) ?_
      refine x_goto F 79 d_Md_feature_61 (by decide) ?_
      replace hm := xm_p_some hm
      obtain ⟨eo, c_o, d_o⟩ := hm
      subst eo
      refine x_sub [0, 1, 2, 3, 4, 5, 6, 7, 8, 9, 10, 11, 12, 13, 14, 15, 16, 17, 18, 19, 20] (by decide) ?_ (xe_i E (fun _ => 0) (by omega) (by omega) rfl (xz_i _) d_Md_feature_79)
      rfl
    · replace hm := xm_f hm c31
      refine x_aload_n F d_Md_feature_32 2 rfl rfl ?_
      refine x_get F ck_Md hin_Md 0 0 rfl (by decide) kw_634 rfl rfl d_Md_feature_33 ?_
      refine x_iload F d_Md_feature_36 0 rfl ?_
      replace hm := xm_rd_some hm
      obtain ⟨v32, e_v32, b_v32, hm⟩ := hm
      refine x_bald (x := (Md_kinds s0)) F 1 rfl e_v32 b_v32 d_Md_feature_38 ?_
      refine x_iconst (v := (3 : Int32)) F d_Md_feature_39 (by decide) ?_
      refine x_icmp_lt F 60 d_Md_feature_40 (by decide) (fun c33 => ?_) (fun c33 => ?_)
      · replace hm := xm_t hm c33
        refine x_iconst (v := (0 : Int32)) F d_Md_feature_60 (by decide) ?_
        refine x_goto F 79 d_Md_feature_61 (by decide) ?_
        replace hm := xm_p_some hm
        obtain ⟨eo, c_o, d_o⟩ := hm
        subst eo
        refine x_sub [0, 1, 2, 3, 4, 5, 6, 7, 8, 9, 10, 11, 12, 13, 14, 15, 16, 17, 18, 19, 20] (by decide) ?_ (xe_i E (fun _ => 0) (by omega) (by omega) rfl (xz_i _) d_Md_feature_79)
        rfl
      · replace hm := xm_f hm c33
        refine x_iload F d_Md_feature_43 5 rfl ?_
        refine x_if_lt F 60 d_Md_feature_45 (by decide) (fun c34 => ?_) (fun c34 => ?_)
        · replace hm := xm_t hm c34
          refine x_iconst (v := (0 : Int32)) F d_Md_feature_60 (by decide) ?_
          refine x_goto F 79 d_Md_feature_61 (by decide) ?_
          replace hm := xm_p_some hm
          obtain ⟨eo, c_o, d_o⟩ := hm
          subst eo
          refine x_sub [0, 1, 2, 3, 4, 5, 6, 7, 8, 9, 10, 11, 12, 13, 14, 15, 16, 17, 18, 19, 20] (by decide) ?_ (xe_i E (fun _ => 0) (by omega) (by omega) rfl (xz_i _) d_Md_feature_79)
          rfl
        · replace hm := xm_f hm c34
          refine x_iload F d_Md_feature_48 5 rfl ?_
          refine x_aload_n F d_Md_feature_50 2 rfl rfl ?_
          refine x_get F ck_Md hin_Md 0 3 rfl (by decide) kw_637 rfl rfl d_Md_feature_51 ?_
          refine x_iload F d_Md_feature_54 0 rfl ?_
          replace hm := xm_rd_some hm
          obtain ⟨v35, e_v35, b_v35, hm⟩ := hm
          refine x_iald (x := (Md_manies s0)) F 4 rfl e_v35 b_v35 d_Md_feature_56 ?_
          refine x_icmp_lt F 64 d_Md_feature_57 (by decide) (fun c36 => ?_) (fun c36 => ?_)
          · replace hm := xm_t hm c36
            refine x_aload_n F d_Md_feature_64 2 rfl rfl ?_
            refine x_get F ck_Md hin_Md 0 11 rfl (by decide) kw_645 rfl rfl d_Md_feature_65 ?_
            refine x_aload_n F d_Md_feature_68 2 rfl rfl ?_
            refine x_get F ck_Md hin_Md 0 2 rfl (by decide) kw_636 rfl rfl d_Md_feature_69 ?_
            refine x_iload F d_Md_feature_72 0 rfl ?_
            replace hm := xm_rd_some hm
            obtain ⟨v37, e_v37, b_v37, hm⟩ := hm
            refine x_iald (x := (Md_firsts s0)) F 3 rfl e_v37 b_v37 d_Md_feature_74 ?_
            refine x_iload F d_Md_feature_75 5 rfl ?_
            refine x_iadd F d_Md_feature_77 ?_
            replace hm := xm_rd_some hm
            obtain ⟨v38, e_v38, b_v38, hm⟩ := hm
            refine x_iald (x := (Md_features s0)) F 10 rfl e_v38 b_v38 d_Md_feature_78 ?_
            replace hm := xm_p_some hm
            obtain ⟨eo, c_o, d_o⟩ := hm
            subst eo
            refine x_sub [0, 1, 2, 3, 4, 5, 6, 7, 8, 9, 10, 11, 12, 13, 14, 15, 16, 17, 18, 19, 20] (by decide) ?_ (xe_i E (fun _ => 0) (by omega) (by omega) rfl (xz_i _) d_Md_feature_79)
            rfl
          · replace hm := xm_f hm c36
            refine x_iconst (v := (0 : Int32)) F d_Md_feature_60 (by decide) ?_
            refine x_goto F 79 d_Md_feature_61 (by decide) ?_
            replace hm := xm_p_some hm
            obtain ⟨eo, c_o, d_o⟩ := hm
            subst eo
            refine x_sub [0, 1, 2, 3, 4, 5, 6, 7, 8, 9, 10, 11, 12, 13, 14, 15, 16, 17, 18, 19, 20] (by decide) ?_ (xe_i E (fun _ => 0) (by omega) (by omega) rfl (xz_i _) d_Md_feature_79)
            rfl
  · replace hm := xm_t hm c25
    refine x_iconst (v := (-1 : Int32)) F d_Md_feature_14 (by decide) ?_
    refine x_goto F 24 d_Md_feature_15 (by decide) ?_
    refine x_istore (lv' := [(6, .int (-1 : Int32)), (5, .int o20), (0, .ref (ob0 0)), (1, .int p0), (2, .long p1), (4, .int p2)]) F d_Md_feature_24 (by decide) rfl ?_
    refine x_iload F d_Md_feature_26 0 rfl ?_
    refine x_iconst (v := (-1 : Int32)) F d_Md_feature_28 (by decide) ?_
    refine x_icmp_eq F 60 d_Md_feature_29 (by decide) (fun _ => ?_) (fun h => absurd h (by decide))
    refine x_iconst (v := (0 : Int32)) F d_Md_feature_60 (by decide) ?_
    refine x_goto F 79 d_Md_feature_61 (by decide) ?_
    replace hm := xm_p_some hm
    obtain ⟨eo, c_o, d_o⟩ := hm
    subst eo
    refine x_sub [0, 1, 2, 3, 4, 5, 6, 7, 8, 9, 10, 11, 12, 13, 14, 15, 16, 17, 18, 19, 20] (by decide) ?_ (xe_i E (fun _ => 0) (by omega) (by omega) rfl (xz_i _) d_Md_feature_79)
    rfl

noncomputable def L_Md_field_24 (y1 : Int32) (y2 : Int32) (y3 : Int32) (s0 : S_Md) (n i : Nat) : Int32 → Int32 → MO (Int32 × Int32) := Nat.rec (motive := fun _ => Int32 → Int32 → MO (Int32 × Int32)) (fun _ _ => none) (fun _ ih x4 x5 => (if y3 = (-1 : Int32) then (xm_p ((x4, x5))) else (xm_rd (Md_kinds s0) y3 (fun v28 => (if v28 < (3 : Int32) then (xm_p ((x4, x5))) else (xm_rd (Md_manies s0) y3 (fun v30 => (if v30 ≤ x5 then (xm_p ((x4, x5))) else (xm_rd (Md_firsts s0) y3 (fun v32 => (xm_rd (Md_features s0) (v32 + x5) (fun v33 => (if v33 = y2 then (xm_rd (Md_firsts s0) y3 (fun v35 => (ih (v35 + x5) (x5 + 1)))) else (ih x4 (x5 + 1))))))))))))))) i
theorem L_Md_field_24_s (y1 : Int32) (y2 : Int32) (y3 : Int32) (s0 : S_Md) (n i : Nat) (x4 : Int32) (x5 : Int32) : L_Md_field_24 y1 y2 y3 s0 n (i + 1) x4 x5 = (if y3 = (-1 : Int32) then (xm_p ((x4, x5))) else (xm_rd (Md_kinds s0) y3 (fun v28 => (if v28 < (3 : Int32) then (xm_p ((x4, x5))) else (xm_rd (Md_manies s0) y3 (fun v30 => (if v30 ≤ x5 then (xm_p ((x4, x5))) else (xm_rd (Md_firsts s0) y3 (fun v32 => (xm_rd (Md_features s0) (v32 + x5) (fun v33 => (if v33 = y2 then (xm_rd (Md_firsts s0) y3 (fun v35 => (L_Md_field_24 y1 y2 y3 s0 n i (v35 + x5) (x5 + 1)))) else (L_Md_field_24 y1 y2 y3 s0 n i x4 (x5 + 1)))))))))))))) := rfl
noncomputable def m_Md_field (n : Nat) (s0 : S_Md) (p0 : Int32) (p1 : Int32) : MO (Int32) := (xm_b (m_Md_has n s0 p0) (fun o21 => (if o21 = 0 then (xm_b (L_Md_field_24 p0 p1 (-1 : Int32) s0 n n (-1 : Int32) (0 : Int32)) (fun o36 => (xm_p (o36.1)))) else (xm_b (m_Md_meant n s0 p0) (fun o41 => (xm_b (L_Md_field_24 p0 p1 o41 s0 n n (-1 : Int32) (0 : Int32)) (fun o46 => (xm_p (o46.1)))))))))
set_option maxHeartbeats 4000000 in
set_option maxRecDepth 100000 in
theorem wl_Md_field_24 {X : XT} {l : Launch} {D : va_G} {cA : Nat → ClassId} {mc ms : Nat} (F : XF X l D cA b_Md_field 6 (some FieldType.int) R_Md 1 22 mc ms) (n : Nat) (ob0 : Nat → Nat) (y1 : Int32) (y2 : Int32) (y3 : Int32) (s0 : S_Md) (ad0 : Nat → Nat) : ∀ (i : Nat) (x4 : Int32) (x5 : Int32)  (nc ns : Nat) (out : Int32 × Int32) (k : KC), L_Md_field_24 y1 y2 y3 s0 n i x4 x5 = some (out, k) → nc + k.1 ≤ mc → ns + k.2 ≤ ms → (∀ ad : Nat → Nat, XW X 6 ((w_Md cA ob0 ad0  s0)) (nc + k.1) (ns + k.2) 90 [(0, .ref (ob0 0)), (1, .int y1), (2, .int y2), (3, .int y3), (4, .int (out.1)), (5, .int (out.2))] []) → XW X 6 ((w_Md cA ob0 ad0  s0)) nc ns 24 [(0, .ref (ob0 0)), (1, .int y1), (2, .int y2), (3, .int y3), (4, .int x4), (5, .int x5)] [] := by
  intro i
  induction i with
  | zero =>
    intro x4 x5  nc ns out k hm
    replace hm : (none : MO (Int32 × Int32)) = some (out, k) := hm
    cases hm
  | succ i ih =>
    intro x4 x5  nc ns out k hm hc hs KX
    rw [L_Md_field_24_s] at hm
    refine x_ws (ws' := [((ob0 0), .inr (8, [.ref (ob0 1), .ref (ob0 2), .ref (ob0 3), .ref (ob0 4), .ref (ob0 5), .ref (ob0 6), .ref (ob0 7), .ref (ob0 8), .ref (ob0 9), .int (Md_end s0), .int (Md_nodes s0), .ref (ob0 10), .ref (ob0 11), .int (Md_fields s0), .ref (ob0 12), .ref (ob0 13), .int (Md_pushed s0), .ref (ob0 14), .int (Md_touches s0), .ref (ob0 15), .ref (ob0 16), .ref (ob0 17), .ref (ob0 18), .ref (ad0 0), .ref (ad0 1), .int (Md_length s0)])), ((ob0 1), .inl (cA 1, (Md_kinds s0).1, .inl (Md_kinds s0).2)), ((ob0 2), .inl (cA 0, (Md_values s0).1, .inl (Md_values s0).2)), ((ob0 3), .inl (cA 0, (Md_firsts s0).1, .inl (Md_firsts s0).2)), ((ob0 4), .inl (cA 0, (Md_manies s0).1, .inl (Md_manies s0).2)), ((ob0 5), .inl (cA 2, (Md_said s0).1, .inl (Md_said s0).2)), ((ob0 6), .inl (cA 2, (Md_marked s0).1, .inl (Md_marked s0).2)), ((ob0 7), .inl (cA 0, (Md_leaders s0).1, .inl (Md_leaders s0).2)), ((ob0 8), .inl (cA 0, (Md_trial s0).1, .inl (Md_trial s0).2)), ((ob0 9), .inl (cA 0, (Md_shown s0).1, .inl (Md_shown s0).2)), ((ob0 10), .inl (cA 0, (Md_features s0).1, .inl (Md_features s0).2)), ((ob0 11), .inl (cA 0, (Md_parts s0).1, .inl (Md_parts s0).2)), ((ob0 12), .inl (cA 0, (Md_pushedFeatures s0).1, .inl (Md_pushedFeatures s0).2)), ((ob0 13), .inl (cA 0, (Md_pushedParts s0).1, .inl (Md_pushedParts s0).2)), ((ob0 14), .inl (cA 0, (Md_touched s0).1, .inl (Md_touched s0).2)), ((ob0 15), .inl (cA 0, (Md_reached s0).1, .inl (Md_reached s0).2)), ((ob0 16), .inl (cA 0, (Md_blocks s0).1, .inl (Md_blocks s0).2)), ((ob0 17), .inl (cA 0, (Md_newBlocks s0).1, .inl (Md_newBlocks s0).2)), ((ob0 18), .inl (cA 0, (Md_places s0).1, .inl (Md_places s0).2)), ((ad0 0), .inl (cA 0, (Md_written s0).1, .inl (Md_written s0).2)), ((ad0 1), .inl (cA 0, (Md_other s0).1, .inl (Md_other s0).2))]) rfl ?_
    refine x_iload_n F d_Md_field_24 3 rfl rfl ?_
    refine x_iconst (v := (-1 : Int32)) F d_Md_field_25 (by decide) ?_
    refine x_icmp_eq F 90 d_Md_field_26 (by decide) (fun c27 => ?_) (fun c27 => ?_)
    · replace hm := xm_t hm c27
      replace hm := xm_p_some hm
      obtain ⟨eo, c_o, d_o⟩ := hm
      subst eo
      refine x_sub [0, 1, 2, 3, 4, 5, 6, 7, 8, 9, 10, 11, 12, 13, 14, 15, 16, 17, 18, 19, 20] (by decide) ?_ (x_lv [0, 1, 2, 3, 4, 5] ?_ (x_cs (by omega) (by omega) (KX (fun _ => 0))))
      · rfl
      · rfl
    · replace hm := xm_f hm c27
      refine x_aload_n F d_Md_field_29 0 rfl rfl ?_
      refine x_get F ck_Md hin_Md 0 0 rfl (by decide) kw_634 rfl rfl d_Md_field_30 ?_
      refine x_iload_n F d_Md_field_33 3 rfl rfl ?_
      replace hm := xm_rd_some hm
      obtain ⟨v28, e_v28, b_v28, hm⟩ := hm
      refine x_bald (x := (Md_kinds s0)) F 1 rfl e_v28 b_v28 d_Md_field_34 ?_
      refine x_iconst (v := (3 : Int32)) F d_Md_field_35 (by decide) ?_
      refine x_icmp_lt F 90 d_Md_field_36 (by decide) (fun c29 => ?_) (fun c29 => ?_)
      · replace hm := xm_t hm c29
        replace hm := xm_p_some hm
        obtain ⟨eo, c_o, d_o⟩ := hm
        subst eo
        refine x_sub [0, 1, 2, 3, 4, 5, 6, 7, 8, 9, 10, 11, 12, 13, 14, 15, 16, 17, 18, 19, 20] (by decide) ?_ (x_lv [0, 1, 2, 3, 4, 5] ?_ (x_cs (by omega) (by omega) (KX (fun _ => 0))))
        · rfl
        · rfl
      · replace hm := xm_f hm c29
        refine x_iload F d_Md_field_39 5 rfl ?_
        refine x_aload_n F d_Md_field_41 0 rfl rfl ?_
        refine x_get F ck_Md hin_Md 0 3 rfl (by decide) kw_637 rfl rfl d_Md_field_42 ?_
        refine x_iload_n F d_Md_field_45 3 rfl rfl ?_
        replace hm := xm_rd_some hm
        obtain ⟨v30, e_v30, b_v30, hm⟩ := hm
        refine x_iald (x := (Md_manies s0)) F 4 rfl e_v30 b_v30 d_Md_field_46 ?_
        refine x_icmp_ge F 90 d_Md_field_47 (by decide) (fun c31 => ?_) (fun c31 => ?_)
        · replace hm := xm_t hm c31
          replace hm := xm_p_some hm
          obtain ⟨eo, c_o, d_o⟩ := hm
          subst eo
          refine x_sub [0, 1, 2, 3, 4, 5, 6, 7, 8, 9, 10, 11, 12, 13, 14, 15, 16, 17, 18, 19, 20] (by decide) ?_ (x_lv [0, 1, 2, 3, 4, 5] ?_ (x_cs (by omega) (by omega) (KX (fun _ => 0))))
          · rfl
          · rfl
        · replace hm := xm_f hm c31
          refine x_aload_n F d_Md_field_50 0 rfl rfl ?_
          refine x_get F ck_Md hin_Md 0 11 rfl (by decide) kw_645 rfl rfl d_Md_field_51 ?_
          refine x_aload_n F d_Md_field_54 0 rfl rfl ?_
          refine x_get F ck_Md hin_Md 0 2 rfl (by decide) kw_636 rfl rfl d_Md_field_55 ?_
          refine x_iload_n F d_Md_field_58 3 rfl rfl ?_
          replace hm := xm_rd_some hm
          obtain ⟨v32, e_v32, b_v32, hm⟩ := hm
          refine x_iald (x := (Md_firsts s0)) F 3 rfl e_v32 b_v32 d_Md_field_59 ?_
          refine x_iload F d_Md_field_60 5 rfl ?_
          refine x_iadd F d_Md_field_62 ?_
          replace hm := xm_rd_some hm
          obtain ⟨v33, e_v33, b_v33, hm⟩ := hm
          refine x_iald (x := (Md_features s0)) F 10 rfl e_v33 b_v33 d_Md_field_63 ?_
          refine x_iload_n F d_Md_field_64 2 rfl rfl ?_
          refine x_icmp_ne F 80 d_Md_field_65 (by decide) (fun c34 => ?_) (fun c34 => ?_)
          · replace hm := xm_f hm c34
            refine x_iload F d_Md_field_80 4 rfl ?_
            refine x_istore (lv' := [(4, .int x4), (0, .ref (ob0 0)), (1, .int y1), (2, .int y2), (3, .int y3), (5, .int x5)]) F d_Md_field_82 (by decide) rfl ?_
            refine x_iinc (v := (x5 + 1)) (lv' := [(5, .int (x5 + 1)), (4, .int x4), (0, .ref (ob0 0)), (1, .int y1), (2, .int y2), (3, .int y3)]) F d_Md_field_84 5 rfl rfl (by decide) rfl ?_
            refine x_goto F 24 d_Md_field_87 (by decide) ?_
            refine x_sub [0, 1, 2, 3, 4, 5, 6, 7, 8, 9, 10, 11, 12, 13, 14, 15, 16, 17, 18, 19, 20] (by decide) ?_ (x_lv [2, 3, 4, 5, 1, 0] ?_ (ih x4 (x5 + 1)  _ _ out k hm (by omega) (by omega) (fun ad => x_cs (by omega) (by omega) (KX ad))))
            · rfl
            · rfl
          · replace hm := xm_t hm c34
            refine x_aload_n F d_Md_field_68 0 rfl rfl ?_
            refine x_get F ck_Md hin_Md 0 2 rfl (by decide) kw_636 rfl rfl d_Md_field_69 ?_
            refine x_iload_n F d_Md_field_72 3 rfl rfl ?_
            replace hm := xm_rd_some hm
            obtain ⟨v35, e_v35, b_v35, hm⟩ := hm
            refine x_iald (x := (Md_firsts s0)) F 3 rfl e_v35 b_v35 d_Md_field_73 ?_
            refine x_iload F d_Md_field_74 5 rfl ?_
            refine x_iadd F d_Md_field_76 ?_
            refine x_goto F 82 d_Md_field_77 (by decide) ?_
            refine x_istore (lv' := [(4, .int (v35 + x5)), (0, .ref (ob0 0)), (1, .int y1), (2, .int y2), (3, .int y3), (5, .int x5)]) F d_Md_field_82 (by decide) rfl ?_
            refine x_iinc (v := (x5 + 1)) (lv' := [(5, .int (x5 + 1)), (4, .int (v35 + x5)), (0, .ref (ob0 0)), (1, .int y1), (2, .int y2), (3, .int y3)]) F d_Md_field_84 5 rfl rfl (by decide) rfl ?_
            refine x_goto F 24 d_Md_field_87 (by decide) ?_
            refine x_sub [0, 1, 2, 3, 4, 5, 6, 7, 8, 9, 10, 11, 12, 13, 14, 15, 16, 17, 18, 19, 20] (by decide) ?_ (x_lv [2, 3, 4, 5, 1, 0] ?_ (ih (v35 + x5) (x5 + 1)  _ _ out k hm (by omega) (by omega) (fun ad => x_cs (by omega) (by omega) (KX ad))))
            · rfl
            · rfl
set_option maxHeartbeats 4000000 in
set_option maxRecDepth 100000 in
theorem c_Md_field (l : Launch) (D : va_G) (cA : Nat → ClassId) (n : Nat) (ob0 ad0 : Nat → Nat) (s0 : S_Md) (p0 : Int32) (p1 : Int32) (out : Int32) (k : KC) (hm : m_Md_field n s0 p0 p1 = some (out, k)) : XM l D cA y_Md_field b_Md_field 6 (some FieldType.int) 1 22 [.ref (ob0 0), .int p0, .int p1] ((w_Md cA ob0 ad0  s0)) k (fun _ => some (.int out)) (fun ad => (w_Md cA ob0 ad0  s0)) := by
  refine x_met (cc := b_Md_field) (nL := 6) (ret := (some FieldType.int)) R_Md (by decide) (Nat.le_of_ble_eq_true rfl) rfl (fun X F I E => ?_)
  unfold m_Md_field at hm
  refine x_nf2 (ws' := [((ob0 0), .inr (8, [.ref (ob0 1), .ref (ob0 2), .ref (ob0 3), .ref (ob0 4), .ref (ob0 5), .ref (ob0 6), .ref (ob0 7), .ref (ob0 8), .ref (ob0 9), .int (Md_end s0), .int (Md_nodes s0), .ref (ob0 10), .ref (ob0 11), .int (Md_fields s0), .ref (ob0 12), .ref (ob0 13), .int (Md_pushed s0), .ref (ob0 14), .int (Md_touches s0), .ref (ob0 15), .ref (ob0 16), .ref (ob0 17), .ref (ob0 18), .ref (ad0 0), .ref (ad0 1), .int (Md_length s0)])), ((ob0 1), .inl (cA 1, (Md_kinds s0).1, .inl (Md_kinds s0).2)), ((ob0 2), .inl (cA 0, (Md_values s0).1, .inl (Md_values s0).2)), ((ob0 3), .inl (cA 0, (Md_firsts s0).1, .inl (Md_firsts s0).2)), ((ob0 4), .inl (cA 0, (Md_manies s0).1, .inl (Md_manies s0).2)), ((ob0 5), .inl (cA 2, (Md_said s0).1, .inl (Md_said s0).2)), ((ob0 6), .inl (cA 2, (Md_marked s0).1, .inl (Md_marked s0).2)), ((ob0 7), .inl (cA 0, (Md_leaders s0).1, .inl (Md_leaders s0).2)), ((ob0 8), .inl (cA 0, (Md_trial s0).1, .inl (Md_trial s0).2)), ((ob0 9), .inl (cA 0, (Md_shown s0).1, .inl (Md_shown s0).2)), ((ob0 10), .inl (cA 0, (Md_features s0).1, .inl (Md_features s0).2)), ((ob0 11), .inl (cA 0, (Md_parts s0).1, .inl (Md_parts s0).2)), ((ob0 12), .inl (cA 0, (Md_pushedFeatures s0).1, .inl (Md_pushedFeatures s0).2)), ((ob0 13), .inl (cA 0, (Md_pushedParts s0).1, .inl (Md_pushedParts s0).2)), ((ob0 14), .inl (cA 0, (Md_touched s0).1, .inl (Md_touched s0).2)), ((ob0 15), .inl (cA 0, (Md_reached s0).1, .inl (Md_reached s0).2)), ((ob0 16), .inl (cA 0, (Md_blocks s0).1, .inl (Md_blocks s0).2)), ((ob0 17), .inl (cA 0, (Md_newBlocks s0).1, .inl (Md_newBlocks s0).2)), ((ob0 18), .inl (cA 0, (Md_places s0).1, .inl (Md_places s0).2)), ((ad0 0), .inl (cA 0, (Md_written s0).1, .inl (Md_written s0).2)), ((ad0 1), .inl (cA 0, (Md_other s0).1, .inl (Md_other s0).2))]) (lv' := [(0, .ref (ob0 0)), (1, .int p0), (2, .int p1)]) rfl rfl ?_
  refine x_aload_n F d_Md_field_0 0 rfl rfl ?_
  refine x_iload_n F d_Md_field_1 1 rfl rfl ?_
  replace hm := xm_b_some hm
  obtain ⟨o21, k22, k23, h24, hm, c_o21, d_o21⟩ := hm
  refine x_callV (n := 1) (C := R_Md) (wr := []) F (c_Md_has l D cA n ob0 ad0 s0 p0 o21 k22 h24) kw_742 kw_739 kw_741 kw_20 kw_47 ⟨rfl, by decide, by decide, by decide +kernel⟩ rfl (by decide) (by decide) (ci := 8) rfl rfl 0 rfl [0, 1, 2, 3, 4, 5, 6, 7, 8, 9, 10, 11, 12, 13, 14, 15, 16, 17, 18, 19, 20] [] rfl rfl (by decide) (by decide) (by decide) rfl (Nat.le_of_ble_eq_true rfl) (by omega) (by omega) d_Md_field_2 (fun ad25 => ?_)
  refine x_nf (ws' := [((ob0 0), .inr (8, [.ref (ob0 1), .ref (ob0 2), .ref (ob0 3), .ref (ob0 4), .ref (ob0 5), .ref (ob0 6), .ref (ob0 7), .ref (ob0 8), .ref (ob0 9), .int (Md_end s0), .int (Md_nodes s0), .ref (ob0 10), .ref (ob0 11), .int (Md_fields s0), .ref (ob0 12), .ref (ob0 13), .int (Md_pushed s0), .ref (ob0 14), .int (Md_touches s0), .ref (ob0 15), .ref (ob0 16), .ref (ob0 17), .ref (ob0 18), .ref (ad0 0), .ref (ad0 1), .int (Md_length s0)])), ((ob0 1), .inl (cA 1, (Md_kinds s0).1, .inl (Md_kinds s0).2)), ((ob0 2), .inl (cA 0, (Md_values s0).1, .inl (Md_values s0).2)), ((ob0 3), .inl (cA 0, (Md_firsts s0).1, .inl (Md_firsts s0).2)), ((ob0 4), .inl (cA 0, (Md_manies s0).1, .inl (Md_manies s0).2)), ((ob0 5), .inl (cA 2, (Md_said s0).1, .inl (Md_said s0).2)), ((ob0 6), .inl (cA 2, (Md_marked s0).1, .inl (Md_marked s0).2)), ((ob0 7), .inl (cA 0, (Md_leaders s0).1, .inl (Md_leaders s0).2)), ((ob0 8), .inl (cA 0, (Md_trial s0).1, .inl (Md_trial s0).2)), ((ob0 9), .inl (cA 0, (Md_shown s0).1, .inl (Md_shown s0).2)), ((ob0 10), .inl (cA 0, (Md_features s0).1, .inl (Md_features s0).2)), ((ob0 11), .inl (cA 0, (Md_parts s0).1, .inl (Md_parts s0).2)), ((ob0 12), .inl (cA 0, (Md_pushedFeatures s0).1, .inl (Md_pushedFeatures s0).2)), ((ob0 13), .inl (cA 0, (Md_pushedParts s0).1, .inl (Md_pushedParts s0).2)), ((ob0 14), .inl (cA 0, (Md_touched s0).1, .inl (Md_touched s0).2)), ((ob0 15), .inl (cA 0, (Md_reached s0).1, .inl (Md_reached s0).2)), ((ob0 16), .inl (cA 0, (Md_blocks s0).1, .inl (Md_blocks s0).2)), ((ob0 17), .inl (cA 0, (Md_newBlocks s0).1, .inl (Md_newBlocks s0).2)), ((ob0 18), .inl (cA 0, (Md_places s0).1, .inl (Md_places s0).2)), ((ad0 0), .inl (cA 0, (Md_written s0).1, .inl (Md_written s0).2)), ((ad0 1), .inl (cA 0, (Md_other s0).1, .inl (Md_other s0).2))]) (st' := [.int o21]) rfl rfl ?_
  refine x_if_eq F 16 d_Md_field_5 (by decide) (fun c26 => ?_) (fun c26 => ?_)
  · replace hm := xm_t hm c26
    refine x_iconst (v := (-1 : Int32)) F d_Md_field_16 (by decide) ?_
    refine x_istore_n (lv' := [(3, .int (-1 : Int32)), (0, .ref (ob0 0)), (1, .int p0), (2, .int p1)]) F d_Md_field_17 rfl (by decide) rfl ?_
    refine x_iconst (v := (-1 : Int32)) F d_Md_field_18 (by decide) ?_
    refine x_istore (lv' := [(4, .int (-1 : Int32)), (3, .int (-1 : Int32)), (0, .ref (ob0 0)), (1, .int p0), (2, .int p1)]) F d_Md_field_19 (by decide) rfl ?_
    refine x_iconst (v := (0 : Int32)) F d_Md_field_21 (by decide) ?_
    refine x_istore (lv' := [(5, .int (0 : Int32)), (4, .int (-1 : Int32)), (3, .int (-1 : Int32)), (0, .ref (ob0 0)), (1, .int p0), (2, .int p1)]) F d_Md_field_22 (by decide) rfl ?_
    replace hm := xm_b_some hm
    obtain ⟨o36, k37, k38, h39, hm, c_o36, d_o36⟩ := hm
    refine x_sub [0, 1, 2, 3, 4, 5, 6, 7, 8, 9, 10, 11, 12, 13, 14, 15, 16, 17, 18, 19, 20] (by decide) ?_ (x_lv [3, 4, 5, 2, 1, 0] ?_ (wl_Md_field_24 F n ob0 p0 p1 (-1 : Int32) s0 ad0 n (-1 : Int32) (0 : Int32)  _ _ o36 k37 h39 (by omega) (by omega) (fun ad40 => ?_)))
    · rfl
    · rfl
    refine x_nf2 (ws' := [((ob0 0), .inr (8, [.ref (ob0 1), .ref (ob0 2), .ref (ob0 3), .ref (ob0 4), .ref (ob0 5), .ref (ob0 6), .ref (ob0 7), .ref (ob0 8), .ref (ob0 9), .int (Md_end s0), .int (Md_nodes s0), .ref (ob0 10), .ref (ob0 11), .int (Md_fields s0), .ref (ob0 12), .ref (ob0 13), .int (Md_pushed s0), .ref (ob0 14), .int (Md_touches s0), .ref (ob0 15), .ref (ob0 16), .ref (ob0 17), .ref (ob0 18), .ref (ad0 0), .ref (ad0 1), .int (Md_length s0)])), ((ob0 1), .inl (cA 1, (Md_kinds s0).1, .inl (Md_kinds s0).2)), ((ob0 2), .inl (cA 0, (Md_values s0).1, .inl (Md_values s0).2)), ((ob0 3), .inl (cA 0, (Md_firsts s0).1, .inl (Md_firsts s0).2)), ((ob0 4), .inl (cA 0, (Md_manies s0).1, .inl (Md_manies s0).2)), ((ob0 5), .inl (cA 2, (Md_said s0).1, .inl (Md_said s0).2)), ((ob0 6), .inl (cA 2, (Md_marked s0).1, .inl (Md_marked s0).2)), ((ob0 7), .inl (cA 0, (Md_leaders s0).1, .inl (Md_leaders s0).2)), ((ob0 8), .inl (cA 0, (Md_trial s0).1, .inl (Md_trial s0).2)), ((ob0 9), .inl (cA 0, (Md_shown s0).1, .inl (Md_shown s0).2)), ((ob0 10), .inl (cA 0, (Md_features s0).1, .inl (Md_features s0).2)), ((ob0 11), .inl (cA 0, (Md_parts s0).1, .inl (Md_parts s0).2)), ((ob0 12), .inl (cA 0, (Md_pushedFeatures s0).1, .inl (Md_pushedFeatures s0).2)), ((ob0 13), .inl (cA 0, (Md_pushedParts s0).1, .inl (Md_pushedParts s0).2)), ((ob0 14), .inl (cA 0, (Md_touched s0).1, .inl (Md_touched s0).2)), ((ob0 15), .inl (cA 0, (Md_reached s0).1, .inl (Md_reached s0).2)), ((ob0 16), .inl (cA 0, (Md_blocks s0).1, .inl (Md_blocks s0).2)), ((ob0 17), .inl (cA 0, (Md_newBlocks s0).1, .inl (Md_newBlocks s0).2)), ((ob0 18), .inl (cA 0, (Md_places s0).1, .inl (Md_places s0).2)), ((ad0 0), .inl (cA 0, (Md_written s0).1, .inl (Md_written s0).2)), ((ad0 1), .inl (cA 0, (Md_other s0).1, .inl (Md_other s0).2))]) (lv' := [(0, .ref (ob0 0)), (1, .int p0), (2, .int p1), (3, .int (-1 : Int32)), (4, .int (o36.1)), (5, .int (o36.2))]) rfl rfl ?_
    refine x_iload F d_Md_field_90 4 rfl ?_
    replace hm := xm_p_some hm
    obtain ⟨eo, c_o, d_o⟩ := hm
    subst eo
    refine x_sub [0, 1, 2, 3, 4, 5, 6, 7, 8, 9, 10, 11, 12, 13, 14, 15, 16, 17, 18, 19, 20] (by decide) ?_ (xe_i E (fun _ => 0) (by omega) (by omega) rfl (xz_i _) d_Md_field_92)
    rfl
  · replace hm := xm_f hm c26
    refine x_aload_n F d_Md_field_8 0 rfl rfl ?_
    refine x_iload_n F d_Md_field_9 1 rfl rfl ?_
    replace hm := xm_b_some hm
    obtain ⟨o41, k42, k43, h44, hm, c_o41, d_o41⟩ := hm
    refine x_callV (n := 1) (C := R_Md) (wr := []) F (c_Md_meant l D cA n ob0 ad0 s0 p0 o41 k42 h44) kw_786 kw_783 kw_785 kw_27 kw_47 ⟨rfl, by decide, by decide, by decide +kernel⟩ rfl (by decide) (by decide) (ci := 8) rfl rfl 0 rfl [0, 1, 2, 3, 4, 5, 6, 7, 8, 9, 10, 11, 12, 13, 14, 15, 16, 17, 18, 19, 20] [] rfl rfl (by decide) (by decide) (by decide) rfl (Nat.le_of_ble_eq_true rfl) (by omega) (by omega) d_Md_field_10 (fun ad45 => ?_)
    refine x_nf (ws' := [((ob0 0), .inr (8, [.ref (ob0 1), .ref (ob0 2), .ref (ob0 3), .ref (ob0 4), .ref (ob0 5), .ref (ob0 6), .ref (ob0 7), .ref (ob0 8), .ref (ob0 9), .int (Md_end s0), .int (Md_nodes s0), .ref (ob0 10), .ref (ob0 11), .int (Md_fields s0), .ref (ob0 12), .ref (ob0 13), .int (Md_pushed s0), .ref (ob0 14), .int (Md_touches s0), .ref (ob0 15), .ref (ob0 16), .ref (ob0 17), .ref (ob0 18), .ref (ad0 0), .ref (ad0 1), .int (Md_length s0)])), ((ob0 1), .inl (cA 1, (Md_kinds s0).1, .inl (Md_kinds s0).2)), ((ob0 2), .inl (cA 0, (Md_values s0).1, .inl (Md_values s0).2)), ((ob0 3), .inl (cA 0, (Md_firsts s0).1, .inl (Md_firsts s0).2)), ((ob0 4), .inl (cA 0, (Md_manies s0).1, .inl (Md_manies s0).2)), ((ob0 5), .inl (cA 2, (Md_said s0).1, .inl (Md_said s0).2)), ((ob0 6), .inl (cA 2, (Md_marked s0).1, .inl (Md_marked s0).2)), ((ob0 7), .inl (cA 0, (Md_leaders s0).1, .inl (Md_leaders s0).2)), ((ob0 8), .inl (cA 0, (Md_trial s0).1, .inl (Md_trial s0).2)), ((ob0 9), .inl (cA 0, (Md_shown s0).1, .inl (Md_shown s0).2)), ((ob0 10), .inl (cA 0, (Md_features s0).1, .inl (Md_features s0).2)), ((ob0 11), .inl (cA 0, (Md_parts s0).1, .inl (Md_parts s0).2)), ((ob0 12), .inl (cA 0, (Md_pushedFeatures s0).1, .inl (Md_pushedFeatures s0).2)), ((ob0 13), .inl (cA 0, (Md_pushedParts s0).1, .inl (Md_pushedParts s0).2)), ((ob0 14), .inl (cA 0, (Md_touched s0).1, .inl (Md_touched s0).2)), ((ob0 15), .inl (cA 0, (Md_reached s0).1, .inl (Md_reached s0).2)), ((ob0 16), .inl (cA 0, (Md_blocks s0).1, .inl (Md_blocks s0).2)), ((ob0 17), .inl (cA 0, (Md_newBlocks s0).1, .inl (Md_newBlocks s0).2)), ((ob0 18), .inl (cA 0, (Md_places s0).1, .inl (Md_places s0).2)), ((ad0 0), .inl (cA 0, (Md_written s0).1, .inl (Md_written s0).2)), ((ad0 1), .inl (cA 0, (Md_other s0).1, .inl (Md_other s0).2))]) (st' := [.int o41]) rfl rfl ?_
    refine x_goto F 17 d_Md_field_13 (by decide) ?_
    refine x_istore_n (lv' := [(3, .int o41), (0, .ref (ob0 0)), (1, .int p0), (2, .int p1)]) F d_Md_field_17 rfl (by decide) rfl ?_
    refine x_iconst (v := (-1 : Int32)) F d_Md_field_18 (by decide) ?_
    refine x_istore (lv' := [(4, .int (-1 : Int32)), (3, .int o41), (0, .ref (ob0 0)), (1, .int p0), (2, .int p1)]) F d_Md_field_19 (by decide) rfl ?_
    refine x_iconst (v := (0 : Int32)) F d_Md_field_21 (by decide) ?_
    refine x_istore (lv' := [(5, .int (0 : Int32)), (4, .int (-1 : Int32)), (3, .int o41), (0, .ref (ob0 0)), (1, .int p0), (2, .int p1)]) F d_Md_field_22 (by decide) rfl ?_
    replace hm := xm_b_some hm
    obtain ⟨o46, k47, k48, h49, hm, c_o46, d_o46⟩ := hm
    refine x_sub [0, 1, 2, 3, 4, 5, 6, 7, 8, 9, 10, 11, 12, 13, 14, 15, 16, 17, 18, 19, 20] (by decide) ?_ (x_lv [3, 4, 5, 2, 1, 0] ?_ (wl_Md_field_24 F n ob0 p0 p1 o41 s0 ad0 n (-1 : Int32) (0 : Int32)  _ _ o46 k47 h49 (by omega) (by omega) (fun ad50 => ?_)))
    · rfl
    · rfl
    refine x_nf2 (ws' := [((ob0 0), .inr (8, [.ref (ob0 1), .ref (ob0 2), .ref (ob0 3), .ref (ob0 4), .ref (ob0 5), .ref (ob0 6), .ref (ob0 7), .ref (ob0 8), .ref (ob0 9), .int (Md_end s0), .int (Md_nodes s0), .ref (ob0 10), .ref (ob0 11), .int (Md_fields s0), .ref (ob0 12), .ref (ob0 13), .int (Md_pushed s0), .ref (ob0 14), .int (Md_touches s0), .ref (ob0 15), .ref (ob0 16), .ref (ob0 17), .ref (ob0 18), .ref (ad0 0), .ref (ad0 1), .int (Md_length s0)])), ((ob0 1), .inl (cA 1, (Md_kinds s0).1, .inl (Md_kinds s0).2)), ((ob0 2), .inl (cA 0, (Md_values s0).1, .inl (Md_values s0).2)), ((ob0 3), .inl (cA 0, (Md_firsts s0).1, .inl (Md_firsts s0).2)), ((ob0 4), .inl (cA 0, (Md_manies s0).1, .inl (Md_manies s0).2)), ((ob0 5), .inl (cA 2, (Md_said s0).1, .inl (Md_said s0).2)), ((ob0 6), .inl (cA 2, (Md_marked s0).1, .inl (Md_marked s0).2)), ((ob0 7), .inl (cA 0, (Md_leaders s0).1, .inl (Md_leaders s0).2)), ((ob0 8), .inl (cA 0, (Md_trial s0).1, .inl (Md_trial s0).2)), ((ob0 9), .inl (cA 0, (Md_shown s0).1, .inl (Md_shown s0).2)), ((ob0 10), .inl (cA 0, (Md_features s0).1, .inl (Md_features s0).2)), ((ob0 11), .inl (cA 0, (Md_parts s0).1, .inl (Md_parts s0).2)), ((ob0 12), .inl (cA 0, (Md_pushedFeatures s0).1, .inl (Md_pushedFeatures s0).2)), ((ob0 13), .inl (cA 0, (Md_pushedParts s0).1, .inl (Md_pushedParts s0).2)), ((ob0 14), .inl (cA 0, (Md_touched s0).1, .inl (Md_touched s0).2)), ((ob0 15), .inl (cA 0, (Md_reached s0).1, .inl (Md_reached s0).2)), ((ob0 16), .inl (cA 0, (Md_blocks s0).1, .inl (Md_blocks s0).2)), ((ob0 17), .inl (cA 0, (Md_newBlocks s0).1, .inl (Md_newBlocks s0).2)), ((ob0 18), .inl (cA 0, (Md_places s0).1, .inl (Md_places s0).2)), ((ad0 0), .inl (cA 0, (Md_written s0).1, .inl (Md_written s0).2)), ((ad0 1), .inl (cA 0, (Md_other s0).1, .inl (Md_other s0).2))]) (lv' := [(0, .ref (ob0 0)), (1, .int p0), (2, .int p1), (3, .int o41), (4, .int (o46.1)), (5, .int (o46.2))]) rfl rfl ?_
    refine x_iload F d_Md_field_90 4 rfl ?_
    replace hm := xm_p_some hm
    obtain ⟨eo, c_o, d_o⟩ := hm
    subst eo
    refine x_sub [0, 1, 2, 3, 4, 5, 6, 7, 8, 9, 10, 11, 12, 13, 14, 15, 16, 17, 18, 19, 20] (by decide) ?_ (xe_i E (fun _ => 0) (by omega) (by omega) rfl (xz_i _) d_Md_field_92)
    rfl

noncomputable def m_Md_part (n : Nat) (s0 : S_Md) (p0 : Int32) (p1 : Int32) : MO (Int32) := (xm_b (m_Md_field n s0 p0 p1) (fun o9 => (if o9 = (-1 : Int32) then (xm_p (-1 : Int32)) else (xm_rd (Md_parts s0) o9 (fun v15 => (xm_rd (Md_leaders s0) v15 (fun v16 => (xm_p v16))))))))
set_option maxHeartbeats 4000000 in
set_option maxRecDepth 100000 in
theorem c_Md_part (l : Launch) (D : va_G) (cA : Nat → ClassId) (n : Nat) (ob0 ad0 : Nat → Nat) (s0 : S_Md) (p0 : Int32) (p1 : Int32) (out : Int32) (k : KC) (hm : m_Md_part n s0 p0 p1 = some (out, k)) : XM l D cA y_Md_part b_Md_part 4 (some FieldType.int) 2 47 [.ref (ob0 0), .int p0, .int p1] ((w_Md cA ob0 ad0  s0)) k (fun _ => some (.int out)) (fun ad => (w_Md cA ob0 ad0  s0)) := by
  refine x_met (cc := b_Md_part) (nL := 4) (ret := (some FieldType.int)) R_Md (by decide) (Nat.le_of_ble_eq_true rfl) rfl (fun X F I E => ?_)
  unfold m_Md_part at hm
  refine x_nf2 (ws' := [((ob0 0), .inr (8, [.ref (ob0 1), .ref (ob0 2), .ref (ob0 3), .ref (ob0 4), .ref (ob0 5), .ref (ob0 6), .ref (ob0 7), .ref (ob0 8), .ref (ob0 9), .int (Md_end s0), .int (Md_nodes s0), .ref (ob0 10), .ref (ob0 11), .int (Md_fields s0), .ref (ob0 12), .ref (ob0 13), .int (Md_pushed s0), .ref (ob0 14), .int (Md_touches s0), .ref (ob0 15), .ref (ob0 16), .ref (ob0 17), .ref (ob0 18), .ref (ad0 0), .ref (ad0 1), .int (Md_length s0)])), ((ob0 1), .inl (cA 1, (Md_kinds s0).1, .inl (Md_kinds s0).2)), ((ob0 2), .inl (cA 0, (Md_values s0).1, .inl (Md_values s0).2)), ((ob0 3), .inl (cA 0, (Md_firsts s0).1, .inl (Md_firsts s0).2)), ((ob0 4), .inl (cA 0, (Md_manies s0).1, .inl (Md_manies s0).2)), ((ob0 5), .inl (cA 2, (Md_said s0).1, .inl (Md_said s0).2)), ((ob0 6), .inl (cA 2, (Md_marked s0).1, .inl (Md_marked s0).2)), ((ob0 7), .inl (cA 0, (Md_leaders s0).1, .inl (Md_leaders s0).2)), ((ob0 8), .inl (cA 0, (Md_trial s0).1, .inl (Md_trial s0).2)), ((ob0 9), .inl (cA 0, (Md_shown s0).1, .inl (Md_shown s0).2)), ((ob0 10), .inl (cA 0, (Md_features s0).1, .inl (Md_features s0).2)), ((ob0 11), .inl (cA 0, (Md_parts s0).1, .inl (Md_parts s0).2)), ((ob0 12), .inl (cA 0, (Md_pushedFeatures s0).1, .inl (Md_pushedFeatures s0).2)), ((ob0 13), .inl (cA 0, (Md_pushedParts s0).1, .inl (Md_pushedParts s0).2)), ((ob0 14), .inl (cA 0, (Md_touched s0).1, .inl (Md_touched s0).2)), ((ob0 15), .inl (cA 0, (Md_reached s0).1, .inl (Md_reached s0).2)), ((ob0 16), .inl (cA 0, (Md_blocks s0).1, .inl (Md_blocks s0).2)), ((ob0 17), .inl (cA 0, (Md_newBlocks s0).1, .inl (Md_newBlocks s0).2)), ((ob0 18), .inl (cA 0, (Md_places s0).1, .inl (Md_places s0).2)), ((ad0 0), .inl (cA 0, (Md_written s0).1, .inl (Md_written s0).2)), ((ad0 1), .inl (cA 0, (Md_other s0).1, .inl (Md_other s0).2))]) (lv' := [(0, .ref (ob0 0)), (1, .int p0), (2, .int p1)]) rfl rfl ?_
  refine x_aload_n F d_Md_part_0 0 rfl rfl ?_
  refine x_iload_n F d_Md_part_1 1 rfl rfl ?_
  refine x_iload_n F d_Md_part_2 2 rfl rfl ?_
  replace hm := xm_b_some hm
  obtain ⟨o9, k10, k11, h12, hm, c_o9, d_o9⟩ := hm
  refine x_callV (n := 2) (C := R_Md) (wr := []) F (c_Md_field l D cA n ob0 ad0 s0 p0 p1 o9 k10 h12) kw_828 kw_825 kw_827 kw_30 kw_47 ⟨rfl, by decide, by decide, by decide +kernel⟩ rfl (by decide) (by decide) (ci := 8) rfl rfl 0 rfl [0, 1, 2, 3, 4, 5, 6, 7, 8, 9, 10, 11, 12, 13, 14, 15, 16, 17, 18, 19, 20] [] rfl rfl (by decide) (by decide) (by decide) rfl (Nat.le_of_ble_eq_true rfl) (by omega) (by omega) d_Md_part_3 (fun ad13 => ?_)
  refine x_nf (ws' := [((ob0 0), .inr (8, [.ref (ob0 1), .ref (ob0 2), .ref (ob0 3), .ref (ob0 4), .ref (ob0 5), .ref (ob0 6), .ref (ob0 7), .ref (ob0 8), .ref (ob0 9), .int (Md_end s0), .int (Md_nodes s0), .ref (ob0 10), .ref (ob0 11), .int (Md_fields s0), .ref (ob0 12), .ref (ob0 13), .int (Md_pushed s0), .ref (ob0 14), .int (Md_touches s0), .ref (ob0 15), .ref (ob0 16), .ref (ob0 17), .ref (ob0 18), .ref (ad0 0), .ref (ad0 1), .int (Md_length s0)])), ((ob0 1), .inl (cA 1, (Md_kinds s0).1, .inl (Md_kinds s0).2)), ((ob0 2), .inl (cA 0, (Md_values s0).1, .inl (Md_values s0).2)), ((ob0 3), .inl (cA 0, (Md_firsts s0).1, .inl (Md_firsts s0).2)), ((ob0 4), .inl (cA 0, (Md_manies s0).1, .inl (Md_manies s0).2)), ((ob0 5), .inl (cA 2, (Md_said s0).1, .inl (Md_said s0).2)), ((ob0 6), .inl (cA 2, (Md_marked s0).1, .inl (Md_marked s0).2)), ((ob0 7), .inl (cA 0, (Md_leaders s0).1, .inl (Md_leaders s0).2)), ((ob0 8), .inl (cA 0, (Md_trial s0).1, .inl (Md_trial s0).2)), ((ob0 9), .inl (cA 0, (Md_shown s0).1, .inl (Md_shown s0).2)), ((ob0 10), .inl (cA 0, (Md_features s0).1, .inl (Md_features s0).2)), ((ob0 11), .inl (cA 0, (Md_parts s0).1, .inl (Md_parts s0).2)), ((ob0 12), .inl (cA 0, (Md_pushedFeatures s0).1, .inl (Md_pushedFeatures s0).2)), ((ob0 13), .inl (cA 0, (Md_pushedParts s0).1, .inl (Md_pushedParts s0).2)), ((ob0 14), .inl (cA 0, (Md_touched s0).1, .inl (Md_touched s0).2)), ((ob0 15), .inl (cA 0, (Md_reached s0).1, .inl (Md_reached s0).2)), ((ob0 16), .inl (cA 0, (Md_blocks s0).1, .inl (Md_blocks s0).2)), ((ob0 17), .inl (cA 0, (Md_newBlocks s0).1, .inl (Md_newBlocks s0).2)), ((ob0 18), .inl (cA 0, (Md_places s0).1, .inl (Md_places s0).2)), ((ad0 0), .inl (cA 0, (Md_written s0).1, .inl (Md_written s0).2)), ((ad0 1), .inl (cA 0, (Md_other s0).1, .inl (Md_other s0).2))]) (st' := [.int o9]) rfl rfl ?_
  refine x_istore_n (lv' := [(3, .int o9), (0, .ref (ob0 0)), (1, .int p0), (2, .int p1)]) F d_Md_part_6 rfl (by decide) rfl ?_
  refine x_iload_n F d_Md_part_7 0 rfl rfl ?_
  refine x_iconst (v := (-1 : Int32)) F d_Md_part_8 (by decide) ?_
  refine x_icmp_ne F 16 d_Md_part_9 (by decide) (fun c14 => ?_) (fun c14 => ?_)
  · replace hm := xm_f hm c14
    refine x_aload_n F d_Md_part_16 1 rfl rfl ?_
    refine x_get F ck_Md hin_Md 0 6 rfl (by decide) kw_640 rfl rfl d_Md_part_17 ?_
    refine x_aload_n F d_Md_part_20 1 rfl rfl ?_
    refine x_get F ck_Md hin_Md 0 12 rfl (by decide) kw_646 rfl rfl d_Md_part_21 ?_
    refine x_iload_n F d_Md_part_24 0 rfl rfl ?_
    replace hm := xm_rd_some hm
    obtain ⟨v15, e_v15, b_v15, hm⟩ := hm
    refine x_iald (x := (Md_parts s0)) F 11 rfl e_v15 b_v15 d_Md_part_25 ?_
    replace hm := xm_rd_some hm
    obtain ⟨v16, e_v16, b_v16, hm⟩ := hm
    refine x_iald (x := (Md_leaders s0)) F 7 rfl e_v16 b_v16 d_Md_part_26 ?_
    replace hm := xm_p_some hm
    obtain ⟨eo, c_o, d_o⟩ := hm
    subst eo
    refine x_sub [0, 1, 2, 3, 4, 5, 6, 7, 8, 9, 10, 11, 12, 13, 14, 15, 16, 17, 18, 19, 20] (by decide) ?_ (xe_i E (fun _ => 0) (by omega) (by omega) rfl (xz_i _) d_Md_part_27)
    rfl
  · replace hm := xm_t hm c14
    refine x_iconst (v := (-1 : Int32)) F d_Md_part_12 (by decide) ?_
    refine x_goto F 27 d_Md_part_13 (by decide) ?_
    replace hm := xm_p_some hm
    obtain ⟨eo, c_o, d_o⟩ := hm
    subst eo
    refine x_sub [0, 1, 2, 3, 4, 5, 6, 7, 8, 9, 10, 11, 12, 13, 14, 15, 16, 17, 18, 19, 20] (by decide) ?_ (xe_i E (fun _ => 0) (by omega) (by omega) rfl (xz_i _) d_Md_part_27)
    rfl

noncomputable def m_Md_set (n : Nat) (s0 : S_Md) (p0 : Int32) (p1 : Int32) (p2 : Int32) : MO (Int32 × S_Md) := (xm_b (m_Md_field n s0 p0 p1) (fun o28 => (if o28 = (-1 : Int32) then (xm_p ((-1 : Int32), s0)) else (xm_b (m_Md_meant n s0 p0) (fun o34 => (xm_rd (Md_kinds s0) o34 (fun v39 => (if v39 = (4 : Int32) then (xm_b (m_Md_has n s0 p2) (fun o41 => (if o41 = 0 then (xm_p ((-1 : Int32), s0)) else (xm_rd (Md_parts s0) o28 (fun v47 => (xm_rd (Md_leaders s0) v47 (fun v48 => (xm_wr (Md_parts s0) o28 p2 (fun a49 => (xm_b (m_Md_unmark n ((Md_kinds s0), (Md_values s0), (Md_firsts s0), (Md_manies s0), (Md_said s0), (Md_marked s0), (Md_leaders s0), (Md_trial s0), (Md_shown s0), (Md_end s0), (Md_nodes s0), (Md_features s0), a49, (Md_fields s0), (Md_pushedFeatures s0), (Md_pushedParts s0), (Md_pushed s0), (Md_touched s0), (Md_touches s0), (Md_reached s0), (Md_blocks s0), (Md_newBlocks s0), (Md_places s0), (Md_written s0), (Md_other s0), (Md_length s0))) (fun o50 => (xm_p (v48, o50))))))))))))) else (xm_p ((-1 : Int32), s0))))))))))
set_option maxHeartbeats 4000000 in
set_option maxRecDepth 100000 in
theorem c_Md_set (l : Launch) (D : va_G) (cA : Nat → ClassId) (n : Nat) (ob0 ad0 : Nat → Nat) (s0 : S_Md) (p0 : Int32) (p1 : Int32) (p2 : Int32) (out : Int32 × S_Md) (k : KC) (hm : m_Md_set n s0 p0 p1 p2 = some (out, k)) : XM l D cA y_Md_set b_Md_set 6 (some FieldType.int) 2 47 [.ref (ob0 0), .int p0, .int p1, .int p2] ((w_Md cA ob0 ad0  s0)) k (fun _ => some (.int (out.1))) (fun ad => (w_Md cA ob0 ad  (out.2))) := by
  refine x_met (cc := b_Md_set) (nL := 6) (ret := (some FieldType.int)) R_Md (by decide) (Nat.le_of_ble_eq_true rfl) rfl (fun X F I E => ?_)
  unfold m_Md_set at hm
  refine x_nf2 (ws' := [((ob0 0), .inr (8, [.ref (ob0 1), .ref (ob0 2), .ref (ob0 3), .ref (ob0 4), .ref (ob0 5), .ref (ob0 6), .ref (ob0 7), .ref (ob0 8), .ref (ob0 9), .int (Md_end s0), .int (Md_nodes s0), .ref (ob0 10), .ref (ob0 11), .int (Md_fields s0), .ref (ob0 12), .ref (ob0 13), .int (Md_pushed s0), .ref (ob0 14), .int (Md_touches s0), .ref (ob0 15), .ref (ob0 16), .ref (ob0 17), .ref (ob0 18), .ref (ad0 0), .ref (ad0 1), .int (Md_length s0)])), ((ob0 1), .inl (cA 1, (Md_kinds s0).1, .inl (Md_kinds s0).2)), ((ob0 2), .inl (cA 0, (Md_values s0).1, .inl (Md_values s0).2)), ((ob0 3), .inl (cA 0, (Md_firsts s0).1, .inl (Md_firsts s0).2)), ((ob0 4), .inl (cA 0, (Md_manies s0).1, .inl (Md_manies s0).2)), ((ob0 5), .inl (cA 2, (Md_said s0).1, .inl (Md_said s0).2)), ((ob0 6), .inl (cA 2, (Md_marked s0).1, .inl (Md_marked s0).2)), ((ob0 7), .inl (cA 0, (Md_leaders s0).1, .inl (Md_leaders s0).2)), ((ob0 8), .inl (cA 0, (Md_trial s0).1, .inl (Md_trial s0).2)), ((ob0 9), .inl (cA 0, (Md_shown s0).1, .inl (Md_shown s0).2)), ((ob0 10), .inl (cA 0, (Md_features s0).1, .inl (Md_features s0).2)), ((ob0 11), .inl (cA 0, (Md_parts s0).1, .inl (Md_parts s0).2)), ((ob0 12), .inl (cA 0, (Md_pushedFeatures s0).1, .inl (Md_pushedFeatures s0).2)), ((ob0 13), .inl (cA 0, (Md_pushedParts s0).1, .inl (Md_pushedParts s0).2)), ((ob0 14), .inl (cA 0, (Md_touched s0).1, .inl (Md_touched s0).2)), ((ob0 15), .inl (cA 0, (Md_reached s0).1, .inl (Md_reached s0).2)), ((ob0 16), .inl (cA 0, (Md_blocks s0).1, .inl (Md_blocks s0).2)), ((ob0 17), .inl (cA 0, (Md_newBlocks s0).1, .inl (Md_newBlocks s0).2)), ((ob0 18), .inl (cA 0, (Md_places s0).1, .inl (Md_places s0).2)), ((ad0 0), .inl (cA 0, (Md_written s0).1, .inl (Md_written s0).2)), ((ad0 1), .inl (cA 0, (Md_other s0).1, .inl (Md_other s0).2))]) (lv' := [(0, .ref (ob0 0)), (1, .int p0), (2, .int p1), (3, .int p2)]) rfl rfl ?_
  refine x_aload_n F d_Md_set_0 0 rfl rfl ?_
  refine x_iload_n F d_Md_set_1 1 rfl rfl ?_
  refine x_iload_n F d_Md_set_2 2 rfl rfl ?_
  replace hm := xm_b_some hm
  obtain ⟨o28, k29, k30, h31, hm, c_o28, d_o28⟩ := hm
  refine x_callV (n := 2) (C := R_Md) (wr := []) F (c_Md_field l D cA n ob0 ad0 s0 p0 p1 o28 k29 h31) kw_828 kw_825 kw_827 kw_30 kw_47 ⟨rfl, by decide, by decide, by decide +kernel⟩ rfl (by decide) (by decide) (ci := 8) rfl rfl 0 rfl [0, 1, 2, 3, 4, 5, 6, 7, 8, 9, 10, 11, 12, 13, 14, 15, 16, 17, 18, 19, 20] [] rfl rfl (by decide) (by decide) (by decide) rfl (Nat.le_of_ble_eq_true rfl) (by omega) (by omega) d_Md_set_3 (fun ad32 => ?_)
  refine x_nf (ws' := [((ob0 0), .inr (8, [.ref (ob0 1), .ref (ob0 2), .ref (ob0 3), .ref (ob0 4), .ref (ob0 5), .ref (ob0 6), .ref (ob0 7), .ref (ob0 8), .ref (ob0 9), .int (Md_end s0), .int (Md_nodes s0), .ref (ob0 10), .ref (ob0 11), .int (Md_fields s0), .ref (ob0 12), .ref (ob0 13), .int (Md_pushed s0), .ref (ob0 14), .int (Md_touches s0), .ref (ob0 15), .ref (ob0 16), .ref (ob0 17), .ref (ob0 18), .ref (ad0 0), .ref (ad0 1), .int (Md_length s0)])), ((ob0 1), .inl (cA 1, (Md_kinds s0).1, .inl (Md_kinds s0).2)), ((ob0 2), .inl (cA 0, (Md_values s0).1, .inl (Md_values s0).2)), ((ob0 3), .inl (cA 0, (Md_firsts s0).1, .inl (Md_firsts s0).2)), ((ob0 4), .inl (cA 0, (Md_manies s0).1, .inl (Md_manies s0).2)), ((ob0 5), .inl (cA 2, (Md_said s0).1, .inl (Md_said s0).2)), ((ob0 6), .inl (cA 2, (Md_marked s0).1, .inl (Md_marked s0).2)), ((ob0 7), .inl (cA 0, (Md_leaders s0).1, .inl (Md_leaders s0).2)), ((ob0 8), .inl (cA 0, (Md_trial s0).1, .inl (Md_trial s0).2)), ((ob0 9), .inl (cA 0, (Md_shown s0).1, .inl (Md_shown s0).2)), ((ob0 10), .inl (cA 0, (Md_features s0).1, .inl (Md_features s0).2)), ((ob0 11), .inl (cA 0, (Md_parts s0).1, .inl (Md_parts s0).2)), ((ob0 12), .inl (cA 0, (Md_pushedFeatures s0).1, .inl (Md_pushedFeatures s0).2)), ((ob0 13), .inl (cA 0, (Md_pushedParts s0).1, .inl (Md_pushedParts s0).2)), ((ob0 14), .inl (cA 0, (Md_touched s0).1, .inl (Md_touched s0).2)), ((ob0 15), .inl (cA 0, (Md_reached s0).1, .inl (Md_reached s0).2)), ((ob0 16), .inl (cA 0, (Md_blocks s0).1, .inl (Md_blocks s0).2)), ((ob0 17), .inl (cA 0, (Md_newBlocks s0).1, .inl (Md_newBlocks s0).2)), ((ob0 18), .inl (cA 0, (Md_places s0).1, .inl (Md_places s0).2)), ((ad0 0), .inl (cA 0, (Md_written s0).1, .inl (Md_written s0).2)), ((ad0 1), .inl (cA 0, (Md_other s0).1, .inl (Md_other s0).2))]) (st' := [.int o28]) rfl rfl ?_
  refine x_istore (lv' := [(4, .int o28), (0, .ref (ob0 0)), (1, .int p0), (2, .int p1), (3, .int p2)]) F d_Md_set_6 (by decide) rfl ?_
  refine x_iload F d_Md_set_8 0 rfl ?_
  refine x_iconst (v := (-1 : Int32)) F d_Md_set_10 (by decide) ?_
  refine x_icmp_eq F 36 d_Md_set_11 (by decide) (fun c33 => ?_) (fun c33 => ?_)
  · replace hm := xm_t hm c33
    refine x_iconst (v := (-1 : Int32)) F d_Md_set_36 (by decide) ?_
    replace hm := xm_p_some hm
    obtain ⟨eo, c_o, d_o⟩ := hm
    subst eo
    refine x_sub [0, 1, 2, 3, 4, 5, 6, 7, 8, 9, 10, 11, 12, 13, 14, 15, 16, 17, 18, 19, 20] (by decide) ?_ (xe_i E ad0 (by omega) (by omega) rfl (xz_i _) d_Md_set_37)
    rfl
  · replace hm := xm_f hm c33
    refine x_aload_n F d_Md_set_14 1 rfl rfl ?_
    refine x_get F ck_Md hin_Md 0 0 rfl (by decide) kw_634 rfl rfl d_Md_set_15 ?_
    refine x_aload_n F d_Md_set_18 1 rfl rfl ?_
    refine x_iload_n F d_Md_set_19 2 rfl rfl ?_
    replace hm := xm_b_some hm
    obtain ⟨o34, k35, k36, h37, hm, c_o34, d_o34⟩ := hm
    refine x_callV (n := 1) (C := R_Md) (wr := []) F (c_Md_meant l D cA n ob0 ad0 s0 p0 o34 k35 h37) kw_786 kw_783 kw_785 kw_27 kw_47 ⟨rfl, by decide, by decide, by decide +kernel⟩ rfl (by decide) (by decide) (ci := 8) rfl rfl 0 rfl [0, 1, 2, 3, 4, 5, 6, 7, 8, 9, 10, 11, 12, 13, 14, 15, 16, 17, 18, 19, 20] [] rfl rfl (by decide) (by decide) (by decide) rfl (Nat.le_of_ble_eq_true rfl) (by omega) (by omega) d_Md_set_20 (fun ad38 => ?_)
    refine x_nf (ws' := [((ob0 0), .inr (8, [.ref (ob0 1), .ref (ob0 2), .ref (ob0 3), .ref (ob0 4), .ref (ob0 5), .ref (ob0 6), .ref (ob0 7), .ref (ob0 8), .ref (ob0 9), .int (Md_end s0), .int (Md_nodes s0), .ref (ob0 10), .ref (ob0 11), .int (Md_fields s0), .ref (ob0 12), .ref (ob0 13), .int (Md_pushed s0), .ref (ob0 14), .int (Md_touches s0), .ref (ob0 15), .ref (ob0 16), .ref (ob0 17), .ref (ob0 18), .ref (ad0 0), .ref (ad0 1), .int (Md_length s0)])), ((ob0 1), .inl (cA 1, (Md_kinds s0).1, .inl (Md_kinds s0).2)), ((ob0 2), .inl (cA 0, (Md_values s0).1, .inl (Md_values s0).2)), ((ob0 3), .inl (cA 0, (Md_firsts s0).1, .inl (Md_firsts s0).2)), ((ob0 4), .inl (cA 0, (Md_manies s0).1, .inl (Md_manies s0).2)), ((ob0 5), .inl (cA 2, (Md_said s0).1, .inl (Md_said s0).2)), ((ob0 6), .inl (cA 2, (Md_marked s0).1, .inl (Md_marked s0).2)), ((ob0 7), .inl (cA 0, (Md_leaders s0).1, .inl (Md_leaders s0).2)), ((ob0 8), .inl (cA 0, (Md_trial s0).1, .inl (Md_trial s0).2)), ((ob0 9), .inl (cA 0, (Md_shown s0).1, .inl (Md_shown s0).2)), ((ob0 10), .inl (cA 0, (Md_features s0).1, .inl (Md_features s0).2)), ((ob0 11), .inl (cA 0, (Md_parts s0).1, .inl (Md_parts s0).2)), ((ob0 12), .inl (cA 0, (Md_pushedFeatures s0).1, .inl (Md_pushedFeatures s0).2)), ((ob0 13), .inl (cA 0, (Md_pushedParts s0).1, .inl (Md_pushedParts s0).2)), ((ob0 14), .inl (cA 0, (Md_touched s0).1, .inl (Md_touched s0).2)), ((ob0 15), .inl (cA 0, (Md_reached s0).1, .inl (Md_reached s0).2)), ((ob0 16), .inl (cA 0, (Md_blocks s0).1, .inl (Md_blocks s0).2)), ((ob0 17), .inl (cA 0, (Md_newBlocks s0).1, .inl (Md_newBlocks s0).2)), ((ob0 18), .inl (cA 0, (Md_places s0).1, .inl (Md_places s0).2)), ((ad0 0), .inl (cA 0, (Md_written s0).1, .inl (Md_written s0).2)), ((ad0 1), .inl (cA 0, (Md_other s0).1, .inl (Md_other s0).2))]) (st' := [.int o34, .ref (ob0 1)]) rfl rfl ?_
    replace hm := xm_rd_some hm
    obtain ⟨v39, e_v39, b_v39, hm⟩ := hm
    refine x_bald (x := (Md_kinds s0)) F 1 rfl e_v39 b_v39 d_Md_set_23 ?_
    refine x_iconst (v := (4 : Int32)) F d_Md_set_24 (by decide) ?_
    refine x_icmp_ne F 36 d_Md_set_25 (by decide) (fun c40 => ?_) (fun c40 => ?_)
    · replace hm := xm_f hm c40
      refine x_iconst (v := (-1 : Int32)) F d_Md_set_36 (by decide) ?_
      replace hm := xm_p_some hm
      obtain ⟨eo, c_o, d_o⟩ := hm
      subst eo
      refine x_sub [0, 1, 2, 3, 4, 5, 6, 7, 8, 9, 10, 11, 12, 13, 14, 15, 16, 17, 18, 19, 20] (by decide) ?_ (xe_i E ad0 (by omega) (by omega) rfl (xz_i _) d_Md_set_37)
      rfl
    · replace hm := xm_t hm c40
      refine x_aload_n F d_Md_set_28 1 rfl rfl ?_
      refine x_iload_n F d_Md_set_29 4 rfl rfl ?_
      replace hm := xm_b_some hm
      obtain ⟨o41, k42, k43, h44, hm, c_o41, d_o41⟩ := hm
      refine x_callV (n := 1) (C := R_Md) (wr := []) F (c_Md_has l D cA n ob0 ad0 s0 p2 o41 k42 h44) kw_742 kw_739 kw_741 kw_20 kw_47 ⟨rfl, by decide, by decide, by decide +kernel⟩ rfl (by decide) (by decide) (ci := 8) rfl rfl 0 rfl [0, 1, 2, 3, 4, 5, 6, 7, 8, 9, 10, 11, 12, 13, 14, 15, 16, 17, 18, 19, 20] [] rfl rfl (by decide) (by decide) (by decide) rfl (Nat.le_of_ble_eq_true rfl) (by omega) (by omega) d_Md_set_30 (fun ad45 => ?_)
      refine x_nf (ws' := [((ob0 0), .inr (8, [.ref (ob0 1), .ref (ob0 2), .ref (ob0 3), .ref (ob0 4), .ref (ob0 5), .ref (ob0 6), .ref (ob0 7), .ref (ob0 8), .ref (ob0 9), .int (Md_end s0), .int (Md_nodes s0), .ref (ob0 10), .ref (ob0 11), .int (Md_fields s0), .ref (ob0 12), .ref (ob0 13), .int (Md_pushed s0), .ref (ob0 14), .int (Md_touches s0), .ref (ob0 15), .ref (ob0 16), .ref (ob0 17), .ref (ob0 18), .ref (ad0 0), .ref (ad0 1), .int (Md_length s0)])), ((ob0 1), .inl (cA 1, (Md_kinds s0).1, .inl (Md_kinds s0).2)), ((ob0 2), .inl (cA 0, (Md_values s0).1, .inl (Md_values s0).2)), ((ob0 3), .inl (cA 0, (Md_firsts s0).1, .inl (Md_firsts s0).2)), ((ob0 4), .inl (cA 0, (Md_manies s0).1, .inl (Md_manies s0).2)), ((ob0 5), .inl (cA 2, (Md_said s0).1, .inl (Md_said s0).2)), ((ob0 6), .inl (cA 2, (Md_marked s0).1, .inl (Md_marked s0).2)), ((ob0 7), .inl (cA 0, (Md_leaders s0).1, .inl (Md_leaders s0).2)), ((ob0 8), .inl (cA 0, (Md_trial s0).1, .inl (Md_trial s0).2)), ((ob0 9), .inl (cA 0, (Md_shown s0).1, .inl (Md_shown s0).2)), ((ob0 10), .inl (cA 0, (Md_features s0).1, .inl (Md_features s0).2)), ((ob0 11), .inl (cA 0, (Md_parts s0).1, .inl (Md_parts s0).2)), ((ob0 12), .inl (cA 0, (Md_pushedFeatures s0).1, .inl (Md_pushedFeatures s0).2)), ((ob0 13), .inl (cA 0, (Md_pushedParts s0).1, .inl (Md_pushedParts s0).2)), ((ob0 14), .inl (cA 0, (Md_touched s0).1, .inl (Md_touched s0).2)), ((ob0 15), .inl (cA 0, (Md_reached s0).1, .inl (Md_reached s0).2)), ((ob0 16), .inl (cA 0, (Md_blocks s0).1, .inl (Md_blocks s0).2)), ((ob0 17), .inl (cA 0, (Md_newBlocks s0).1, .inl (Md_newBlocks s0).2)), ((ob0 18), .inl (cA 0, (Md_places s0).1, .inl (Md_places s0).2)), ((ad0 0), .inl (cA 0, (Md_written s0).1, .inl (Md_written s0).2)), ((ad0 1), .inl (cA 0, (Md_other s0).1, .inl (Md_other s0).2))]) (st' := [.int o41]) rfl rfl ?_
      refine x_if_ne F 38 d_Md_set_33 (by decide) (fun c46 => ?_) (fun c46 => ?_)
      · replace hm := xm_f hm c46
        refine x_aload_n F d_Md_set_38 1 rfl rfl ?_
        refine x_get F ck_Md hin_Md 0 6 rfl (by decide) kw_640 rfl rfl d_Md_set_39 ?_
        refine x_aload_n F d_Md_set_42 1 rfl rfl ?_
        refine x_get F ck_Md hin_Md 0 12 rfl (by decide) kw_646 rfl rfl d_Md_set_43 ?_
        refine x_iload F d_Md_set_46 0 rfl ?_
        replace hm := xm_rd_some hm
        obtain ⟨v47, e_v47, b_v47, hm⟩ := hm
        refine x_iald (x := (Md_parts s0)) F 11 rfl e_v47 b_v47 d_Md_set_48 ?_
        replace hm := xm_rd_some hm
        obtain ⟨v48, e_v48, b_v48, hm⟩ := hm
        refine x_iald (x := (Md_leaders s0)) F 7 rfl e_v48 b_v48 d_Md_set_49 ?_
        refine x_istore (lv' := [(5, .int v48), (4, .int o28), (0, .ref (ob0 0)), (1, .int p0), (2, .int p1), (3, .int p2)]) F d_Md_set_50 (by decide) rfl ?_
        refine x_aload_n F d_Md_set_52 2 rfl rfl ?_
        refine x_get F ck_Md hin_Md 0 12 rfl (by decide) kw_646 rfl rfl d_Md_set_53 ?_
        refine x_iload F d_Md_set_56 1 rfl ?_
        refine x_iload_n F d_Md_set_58 5 rfl rfl ?_
        replace hm := xm_wr_some hm
        obtain ⟨a49, e_a49, b_a49, hm⟩ := hm
        refine x_iast (x := (Md_parts s0)) (x' := a49) (ws' := [((ob0 0), .inr (8, [.ref (ob0 1), .ref (ob0 2), .ref (ob0 3), .ref (ob0 4), .ref (ob0 5), .ref (ob0 6), .ref (ob0 7), .ref (ob0 8), .ref (ob0 9), .int (Md_end s0), .int (Md_nodes s0), .ref (ob0 10), .ref (ob0 11), .int (Md_fields s0), .ref (ob0 12), .ref (ob0 13), .int (Md_pushed s0), .ref (ob0 14), .int (Md_touches s0), .ref (ob0 15), .ref (ob0 16), .ref (ob0 17), .ref (ob0 18), .ref (ad0 0), .ref (ad0 1), .int (Md_length s0)])), ((ob0 1), .inl (cA 1, (Md_kinds s0).1, .inl (Md_kinds s0).2)), ((ob0 2), .inl (cA 0, (Md_values s0).1, .inl (Md_values s0).2)), ((ob0 3), .inl (cA 0, (Md_firsts s0).1, .inl (Md_firsts s0).2)), ((ob0 4), .inl (cA 0, (Md_manies s0).1, .inl (Md_manies s0).2)), ((ob0 5), .inl (cA 2, (Md_said s0).1, .inl (Md_said s0).2)), ((ob0 6), .inl (cA 2, (Md_marked s0).1, .inl (Md_marked s0).2)), ((ob0 7), .inl (cA 0, (Md_leaders s0).1, .inl (Md_leaders s0).2)), ((ob0 8), .inl (cA 0, (Md_trial s0).1, .inl (Md_trial s0).2)), ((ob0 9), .inl (cA 0, (Md_shown s0).1, .inl (Md_shown s0).2)), ((ob0 10), .inl (cA 0, (Md_features s0).1, .inl (Md_features s0).2)), ((ob0 11), .inl (cA 0, a49.1, .inl a49.2)), ((ob0 12), .inl (cA 0, (Md_pushedFeatures s0).1, .inl (Md_pushedFeatures s0).2)), ((ob0 13), .inl (cA 0, (Md_pushedParts s0).1, .inl (Md_pushedParts s0).2)), ((ob0 14), .inl (cA 0, (Md_touched s0).1, .inl (Md_touched s0).2)), ((ob0 15), .inl (cA 0, (Md_reached s0).1, .inl (Md_reached s0).2)), ((ob0 16), .inl (cA 0, (Md_blocks s0).1, .inl (Md_blocks s0).2)), ((ob0 17), .inl (cA 0, (Md_newBlocks s0).1, .inl (Md_newBlocks s0).2)), ((ob0 18), .inl (cA 0, (Md_places s0).1, .inl (Md_places s0).2)), ((ad0 0), .inl (cA 0, (Md_written s0).1, .inl (Md_written s0).2)), ((ad0 1), .inl (cA 0, (Md_other s0).1, .inl (Md_other s0).2))]) F 11 rfl e_a49 b_a49 rfl d_Md_set_59 ?_
        refine x_aload_n F d_Md_set_60 2 rfl rfl ?_
        replace hm := xm_b_some hm
        obtain ⟨o50, k51, k52, h53, hm, c_o50, d_o50⟩ := hm
        refine x_callV (n := 0) (C := R_Md) (wr := []) F (c_Md_unmark l D cA n ob0 ad0 ((Md_kinds s0), (Md_values s0), (Md_firsts s0), (Md_manies s0), (Md_said s0), (Md_marked s0), (Md_leaders s0), (Md_trial s0), (Md_shown s0), (Md_end s0), (Md_nodes s0), (Md_features s0), a49, (Md_fields s0), (Md_pushedFeatures s0), (Md_pushedParts s0), (Md_pushed s0), (Md_touched s0), (Md_touches s0), (Md_reached s0), (Md_blocks s0), (Md_newBlocks s0), (Md_places s0), (Md_written s0), (Md_other s0), (Md_length s0))  o50 k51 h53) kw_726 kw_723 kw_725 kw_19 kw_47 ⟨rfl, by decide, by decide, by decide +kernel⟩ rfl (by decide) (by decide) (ci := 8) rfl rfl 0 rfl [0, 1, 2, 3, 4, 5, 6, 7, 8, 9, 10, 11, 12, 13, 14, 15, 16, 17, 18, 19, 20] [] rfl rfl (by decide) (by decide) (by decide) rfl (Nat.le_of_ble_eq_true rfl) (by omega) (by omega) d_Md_set_61 (fun ad54 => ?_)
        refine x_nf (ws' := [((ob0 0), .inr (8, [.ref (ob0 1), .ref (ob0 2), .ref (ob0 3), .ref (ob0 4), .ref (ob0 5), .ref (ob0 6), .ref (ob0 7), .ref (ob0 8), .ref (ob0 9), .int (Md_end o50), .int (Md_nodes o50), .ref (ob0 10), .ref (ob0 11), .int (Md_fields o50), .ref (ob0 12), .ref (ob0 13), .int (Md_pushed o50), .ref (ob0 14), .int (Md_touches o50), .ref (ob0 15), .ref (ob0 16), .ref (ob0 17), .ref (ob0 18), .ref (ad54 0), .ref (ad54 1), .int (Md_length o50)])), ((ob0 1), .inl (cA 1, (Md_kinds o50).1, .inl (Md_kinds o50).2)), ((ob0 2), .inl (cA 0, (Md_values o50).1, .inl (Md_values o50).2)), ((ob0 3), .inl (cA 0, (Md_firsts o50).1, .inl (Md_firsts o50).2)), ((ob0 4), .inl (cA 0, (Md_manies o50).1, .inl (Md_manies o50).2)), ((ob0 5), .inl (cA 2, (Md_said o50).1, .inl (Md_said o50).2)), ((ob0 6), .inl (cA 2, (Md_marked o50).1, .inl (Md_marked o50).2)), ((ob0 7), .inl (cA 0, (Md_leaders o50).1, .inl (Md_leaders o50).2)), ((ob0 8), .inl (cA 0, (Md_trial o50).1, .inl (Md_trial o50).2)), ((ob0 9), .inl (cA 0, (Md_shown o50).1, .inl (Md_shown o50).2)), ((ob0 10), .inl (cA 0, (Md_features o50).1, .inl (Md_features o50).2)), ((ob0 11), .inl (cA 0, (Md_parts o50).1, .inl (Md_parts o50).2)), ((ob0 12), .inl (cA 0, (Md_pushedFeatures o50).1, .inl (Md_pushedFeatures o50).2)), ((ob0 13), .inl (cA 0, (Md_pushedParts o50).1, .inl (Md_pushedParts o50).2)), ((ob0 14), .inl (cA 0, (Md_touched o50).1, .inl (Md_touched o50).2)), ((ob0 15), .inl (cA 0, (Md_reached o50).1, .inl (Md_reached o50).2)), ((ob0 16), .inl (cA 0, (Md_blocks o50).1, .inl (Md_blocks o50).2)), ((ob0 17), .inl (cA 0, (Md_newBlocks o50).1, .inl (Md_newBlocks o50).2)), ((ob0 18), .inl (cA 0, (Md_places o50).1, .inl (Md_places o50).2)), ((ad54 0), .inl (cA 0, (Md_written o50).1, .inl (Md_written o50).2)), ((ad54 1), .inl (cA 0, (Md_other o50).1, .inl (Md_other o50).2))]) (st' := []) rfl rfl ?_
        refine x_iload F d_Md_set_64 0 rfl ?_
        replace hm := xm_p_some hm
        obtain ⟨eo, c_o, d_o⟩ := hm
        subst eo
        refine x_sub [0, 1, 2, 3, 4, 5, 6, 7, 8, 9, 10, 11, 12, 13, 14, 15, 16, 17, 18, 19, 20] (by decide) ?_ (xe_i E ad54 (by omega) (by omega) rfl (xz_i _) d_Md_set_66)
        rfl
      · replace hm := xm_t hm c46
        refine x_iconst (v := (-1 : Int32)) F d_Md_set_36 (by decide) ?_
        replace hm := xm_p_some hm
        obtain ⟨eo, c_o, d_o⟩ := hm
        subst eo
        refine x_sub [0, 1, 2, 3, 4, 5, 6, 7, 8, 9, 10, 11, 12, 13, 14, 15, 16, 17, 18, 19, 20] (by decide) ?_ (xe_i E ad0 (by omega) (by omega) rfl (xz_i _) d_Md_set_37)
        rfl
