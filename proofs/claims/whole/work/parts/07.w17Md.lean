noncomputable def L_Md_meant_2 (y1 : Int32) (s0 : S_Md) (n i : Nat) : Int32 → MO ((Int32) ⊕ (Int32)) := Nat.rec (motive := fun _ => Int32 → MO ((Int32) ⊕ (Int32))) (fun _ => none) (fun _ ih x2 => (if (Md_end s0) ≤ x2 then (xm_p (Sum.inl x2)) else (xm_rd (Md_kinds s0) x2 (fun v8 => (if v8 ≤ 0 then (ih (x2 + 1)) else (xm_rd (Md_leaders s0) x2 (fun v10 => (xm_rd (Md_leaders s0) y1 (fun v11 => (if v10 = v11 then (xm_p (Sum.inr x2)) else (ih (x2 + 1)))))))))))) i
theorem L_Md_meant_2_s (y1 : Int32) (s0 : S_Md) (n i : Nat) (x2 : Int32) : L_Md_meant_2 y1 s0 n (i + 1) x2 = (if (Md_end s0) ≤ x2 then (xm_p (Sum.inl x2)) else (xm_rd (Md_kinds s0) x2 (fun v8 => (if v8 ≤ 0 then (L_Md_meant_2 y1 s0 n i (x2 + 1)) else (xm_rd (Md_leaders s0) x2 (fun v10 => (xm_rd (Md_leaders s0) y1 (fun v11 => (if v10 = v11 then (xm_p (Sum.inr x2)) else (L_Md_meant_2 y1 s0 n i (x2 + 1))))))))))) := rfl
noncomputable def m_Md_meant (n : Nat) (s0 : S_Md) (p0 : Int32) : MO (Int32) := (xm_b (L_Md_meant_2 p0 s0 n n (0 : Int32)) (fun o13 => Sum.elim (fun e18 => (xm_p p0)) (fun z => xm_p z) o13))
set_option maxHeartbeats 4000000 in
set_option maxRecDepth 100000 in
theorem wl_Md_meant_2 {X : XT} {l : Launch} {D : va_G} {cA : Nat → ClassId} {mc ms : Nat} (F : XF X l D cA b_Md_meant 3 (some FieldType.int) R_Md 0 0 mc ms) (n : Nat) (ob0 : Nat → Nat) (y1 : Int32) (s0 : S_Md)  (ad0 : Nat → Nat) : ∀ (i : Nat) (x2 : Int32)  (nc ns : Nat) (out : (Int32) ⊕ (Int32)) (k : KC), L_Md_meant_2 y1 s0 n i x2 = some (out, k) → nc + k.1 ≤ mc → ns + k.2 ≤ ms → (∀ e : Int32, out = Sum.inl e → ∀ ad : Nat → Nat, XW X 3 ((w_Md cA ob0 ad0  s0)) (nc + k.1) (ns + k.2) 42 [(0, .ref (ob0 0)), (1, .int y1), (2, .int e)] []) → (∀ r : Int32, out = Sum.inr r → ∀ (ad : Nat → Nat) (pc : Nat) (lv : List (Nat × Value)), narrow .int (.int r) = .int r → decode b_Md_meant pc = .ok (.ireturn, 1) → XW X 3 ((w_Md cA ob0 ad0  s0)) (nc + k.1) (ns + k.2) pc lv [.int r]) → XW X 3 ((w_Md cA ob0 ad0  s0)) nc ns 2 [(0, .ref (ob0 0)), (1, .int y1), (2, .int x2)] [] := by
  intro i
  induction i with
  | zero =>
    intro x2  nc ns out k hm
    replace hm : (none : MO ((Int32) ⊕ (Int32))) = some (out, k) := hm
    cases hm
  | succ i ih =>
    intro x2  nc ns out k hm hc hs KX KR
    rw [L_Md_meant_2_s] at hm
    refine x_ws (ws' := [((ob0 0), .inr (8, [.ref (ob0 1), .ref (ob0 2), .ref (ob0 3), .ref (ob0 4), .ref (ob0 5), .ref (ob0 6), .ref (ob0 7), .ref (ob0 8), .ref (ob0 9), .int (Md_end s0), .int (Md_nodes s0), .ref (ob0 10), .ref (ob0 11), .int (Md_fields s0), .ref (ob0 12), .ref (ob0 13), .int (Md_pushed s0), .ref (ob0 14), .int (Md_touches s0), .ref (ob0 15), .ref (ob0 16), .ref (ob0 17), .ref (ob0 18), .ref (ad0 0), .ref (ad0 1), .int (Md_length s0)])), ((ob0 1), .inl (cA 1, (Md_kinds s0).1, .inl (Md_kinds s0).2)), ((ob0 2), .inl (cA 0, (Md_values s0).1, .inl (Md_values s0).2)), ((ob0 3), .inl (cA 0, (Md_firsts s0).1, .inl (Md_firsts s0).2)), ((ob0 4), .inl (cA 0, (Md_manies s0).1, .inl (Md_manies s0).2)), ((ob0 5), .inl (cA 2, (Md_said s0).1, .inl (Md_said s0).2)), ((ob0 6), .inl (cA 2, (Md_marked s0).1, .inl (Md_marked s0).2)), ((ob0 7), .inl (cA 0, (Md_leaders s0).1, .inl (Md_leaders s0).2)), ((ob0 8), .inl (cA 0, (Md_trial s0).1, .inl (Md_trial s0).2)), ((ob0 9), .inl (cA 0, (Md_shown s0).1, .inl (Md_shown s0).2)), ((ob0 10), .inl (cA 0, (Md_features s0).1, .inl (Md_features s0).2)), ((ob0 11), .inl (cA 0, (Md_parts s0).1, .inl (Md_parts s0).2)), ((ob0 12), .inl (cA 0, (Md_pushedFeatures s0).1, .inl (Md_pushedFeatures s0).2)), ((ob0 13), .inl (cA 0, (Md_pushedParts s0).1, .inl (Md_pushedParts s0).2)), ((ob0 14), .inl (cA 0, (Md_touched s0).1, .inl (Md_touched s0).2)), ((ob0 15), .inl (cA 0, (Md_reached s0).1, .inl (Md_reached s0).2)), ((ob0 16), .inl (cA 0, (Md_blocks s0).1, .inl (Md_blocks s0).2)), ((ob0 17), .inl (cA 0, (Md_newBlocks s0).1, .inl (Md_newBlocks s0).2)), ((ob0 18), .inl (cA 0, (Md_places s0).1, .inl (Md_places s0).2)), ((ad0 0), .inl (cA 0, (Md_written s0).1, .inl (Md_written s0).2)), ((ad0 1), .inl (cA 0, (Md_other s0).1, .inl (Md_other s0).2))]) rfl ?_
    refine x_iload_n F d_Md_meant_2 2 rfl rfl ?_
    refine x_aload_n F d_Md_meant_3 0 rfl rfl ?_
    refine x_get F ck_Md hin_Md 0 9 rfl (by decide) kw_643 rfl rfl d_Md_meant_4 ?_
    refine x_icmp_ge F 42 d_Md_meant_7 (by decide) (fun c7 => ?_) (fun c7 => ?_)
    · replace hm := xm_t hm c7
      replace hm := xm_p_some hm
      obtain ⟨eo, c_o, d_o⟩ := hm
      refine x_sub [0, 1, 2, 3, 4, 5, 6, 7, 8, 9, 10, 11, 12, 13, 14, 15, 16, 17, 18, 19, 20] (by decide) ?_ (x_lv [0, 1, 2] ?_ (x_cs (by omega) (by omega) (KX _ eo (fun _ => 0))))
      · rfl
      · rfl
    · replace hm := xm_f hm c7
      refine x_aload_n F d_Md_meant_10 0 rfl rfl ?_
      refine x_get F ck_Md hin_Md 0 0 rfl (by decide) kw_634 rfl rfl d_Md_meant_11 ?_
      refine x_iload_n F d_Md_meant_14 2 rfl rfl ?_
      replace hm := xm_rd_some hm
      obtain ⟨v8, e_v8, b_v8, hm⟩ := hm
      refine x_bald (x := (Md_kinds s0)) F 1 rfl e_v8 b_v8 d_Md_meant_15 ?_
      refine x_if_le F 36 d_Md_meant_16 (by decide) (fun c9 => ?_) (fun c9 => ?_)
      · replace hm := xm_t hm c9
        refine x_iinc (v := (x2 + 1)) (lv' := [(2, .int (x2 + 1)), (0, .ref (ob0 0)), (1, .int y1)]) F d_Md_meant_36 2 rfl rfl (by decide) rfl ?_
        refine x_goto F 2 d_Md_meant_39 (by decide) ?_
        refine x_sub [0, 1, 2, 3, 4, 5, 6, 7, 8, 9, 10, 11, 12, 13, 14, 15, 16, 17, 18, 19, 20] (by decide) ?_ (x_lv [1, 2, 0] ?_ (ih (x2 + 1)  _ _ out k hm (by omega) (by omega) (fun e he ad => x_cs (by omega) (by omega) (KX e he ad)) (fun r hr ad pc lv hn hd => x_cs (by omega) (by omega) (KR r hr ad pc lv hn hd))))
        · rfl
        · rfl
      · replace hm := xm_f hm c9
        refine x_aload_n F d_Md_meant_19 0 rfl rfl ?_
        refine x_get F ck_Md hin_Md 0 6 rfl (by decide) kw_640 rfl rfl d_Md_meant_20 ?_
        refine x_iload_n F d_Md_meant_23 2 rfl rfl ?_
        replace hm := xm_rd_some hm
        obtain ⟨v10, e_v10, b_v10, hm⟩ := hm
        refine x_iald (x := (Md_leaders s0)) F 7 rfl e_v10 b_v10 d_Md_meant_24 ?_
        refine x_aload_n F d_Md_meant_25 0 rfl rfl ?_
        refine x_get F ck_Md hin_Md 0 6 rfl (by decide) kw_640 rfl rfl d_Md_meant_26 ?_
        refine x_iload_n F d_Md_meant_29 1 rfl rfl ?_
        replace hm := xm_rd_some hm
        obtain ⟨v11, e_v11, b_v11, hm⟩ := hm
        refine x_iald (x := (Md_leaders s0)) F 7 rfl e_v11 b_v11 d_Md_meant_30 ?_
        refine x_icmp_ne F 36 d_Md_meant_31 (by decide) (fun c12 => ?_) (fun c12 => ?_)
        · replace hm := xm_f hm c12
          refine x_iinc (v := (x2 + 1)) (lv' := [(2, .int (x2 + 1)), (0, .ref (ob0 0)), (1, .int y1)]) F d_Md_meant_36 2 rfl rfl (by decide) rfl ?_
          refine x_goto F 2 d_Md_meant_39 (by decide) ?_
          refine x_sub [0, 1, 2, 3, 4, 5, 6, 7, 8, 9, 10, 11, 12, 13, 14, 15, 16, 17, 18, 19, 20] (by decide) ?_ (x_lv [1, 2, 0] ?_ (ih (x2 + 1)  _ _ out k hm (by omega) (by omega) (fun e he ad => x_cs (by omega) (by omega) (KX e he ad)) (fun r hr ad pc lv hn hd => x_cs (by omega) (by omega) (KR r hr ad pc lv hn hd))))
          · rfl
          · rfl
        · replace hm := xm_t hm c12
          refine x_iload_n F d_Md_meant_34 2 rfl rfl ?_
          replace hm := xm_p_some hm
          obtain ⟨eo, c_o, d_o⟩ := hm
          refine x_sub [0, 1, 2, 3, 4, 5, 6, 7, 8, 9, 10, 11, 12, 13, 14, 15, 16, 17, 18, 19, 20] (by decide) ?_ (x_cs (by omega) (by omega) (KR _ eo (fun _ => 0) _ _ (xz_i _) d_Md_meant_35))
          rfl
set_option maxHeartbeats 4000000 in
set_option maxRecDepth 100000 in
theorem c_Md_meant (l : Launch) (D : va_G) (cA : Nat → ClassId) (n : Nat) (ob0 ad0 : Nat → Nat) (s0 : S_Md) (p0 : Int32) (out : Int32) (k : KC) (hm : m_Md_meant n s0 p0 = some (out, k)) : XM l D cA y_Md_meant b_Md_meant 3 (some FieldType.int) 0 0 [.ref (ob0 0), .int p0] ((w_Md cA ob0 ad0  s0)) k (fun _ => some (.int out)) (fun ad => (w_Md cA ob0 ad0  s0)) := by
  refine x_met (cc := b_Md_meant) (nL := 3) (ret := (some FieldType.int)) R_Md (by decide) (Nat.le_of_ble_eq_true rfl) rfl (fun X F I E => ?_)
  unfold m_Md_meant at hm
  refine x_nf2 (ws' := [((ob0 0), .inr (8, [.ref (ob0 1), .ref (ob0 2), .ref (ob0 3), .ref (ob0 4), .ref (ob0 5), .ref (ob0 6), .ref (ob0 7), .ref (ob0 8), .ref (ob0 9), .int (Md_end s0), .int (Md_nodes s0), .ref (ob0 10), .ref (ob0 11), .int (Md_fields s0), .ref (ob0 12), .ref (ob0 13), .int (Md_pushed s0), .ref (ob0 14), .int (Md_touches s0), .ref (ob0 15), .ref (ob0 16), .ref (ob0 17), .ref (ob0 18), .ref (ad0 0), .ref (ad0 1), .int (Md_length s0)])), ((ob0 1), .inl (cA 1, (Md_kinds s0).1, .inl (Md_kinds s0).2)), ((ob0 2), .inl (cA 0, (Md_values s0).1, .inl (Md_values s0).2)), ((ob0 3), .inl (cA 0, (Md_firsts s0).1, .inl (Md_firsts s0).2)), ((ob0 4), .inl (cA 0, (Md_manies s0).1, .inl (Md_manies s0).2)), ((ob0 5), .inl (cA 2, (Md_said s0).1, .inl (Md_said s0).2)), ((ob0 6), .inl (cA 2, (Md_marked s0).1, .inl (Md_marked s0).2)), ((ob0 7), .inl (cA 0, (Md_leaders s0).1, .inl (Md_leaders s0).2)), ((ob0 8), .inl (cA 0, (Md_trial s0).1, .inl (Md_trial s0).2)), ((ob0 9), .inl (cA 0, (Md_shown s0).1, .inl (Md_shown s0).2)), ((ob0 10), .inl (cA 0, (Md_features s0).1, .inl (Md_features s0).2)), ((ob0 11), .inl (cA 0, (Md_parts s0).1, .inl (Md_parts s0).2)), ((ob0 12), .inl (cA 0, (Md_pushedFeatures s0).1, .inl (Md_pushedFeatures s0).2)), ((ob0 13), .inl (cA 0, (Md_pushedParts s0).1, .inl (Md_pushedParts s0).2)), ((ob0 14), .inl (cA 0, (Md_touched s0).1, .inl (Md_touched s0).2)), ((ob0 15), .inl (cA 0, (Md_reached s0).1, .inl (Md_reached s0).2)), ((ob0 16), .inl (cA 0, (Md_blocks s0).1, .inl (Md_blocks s0).2)), ((ob0 17), .inl (cA 0, (Md_newBlocks s0).1, .inl (Md_newBlocks s0).2)), ((ob0 18), .inl (cA 0, (Md_places s0).1, .inl (Md_places s0).2)), ((ad0 0), .inl (cA 0, (Md_written s0).1, .inl (Md_written s0).2)), ((ad0 1), .inl (cA 0, (Md_other s0).1, .inl (Md_other s0).2))]) (lv' := [(0, .ref (ob0 0)), (1, .int p0)]) rfl rfl ?_
  refine x_iconst (v := (0 : Int32)) F d_Md_meant_0 (by decide) ?_
  refine x_istore_n (lv' := [(2, .int (0 : Int32)), (0, .ref (ob0 0)), (1, .int p0)]) F d_Md_meant_1 rfl (by decide) rfl ?_
  replace hm := xm_b_some hm
  obtain ⟨o13, k14, k15, h16, hm, c_o13, d_o13⟩ := hm
  refine x_sub [0, 1, 2, 3, 4, 5, 6, 7, 8, 9, 10, 11, 12, 13, 14, 15, 16, 17, 18, 19, 20] (by decide) ?_ (x_lv [1, 2, 0] ?_ (wl_Md_meant_2 F n ob0 p0 s0 ad0 n (0 : Int32)  _ _ o13 k14 h16 (by omega) (by omega) (fun e18 h20 ad17 => ?_) (fun r19 h20 ad17 pc lv hn hd => ?_)))
  · rfl
  · rfl
  · subst h20
    replace hm := xm_inl hm
    refine x_nf2 (ws' := [((ob0 0), .inr (8, [.ref (ob0 1), .ref (ob0 2), .ref (ob0 3), .ref (ob0 4), .ref (ob0 5), .ref (ob0 6), .ref (ob0 7), .ref (ob0 8), .ref (ob0 9), .int (Md_end s0), .int (Md_nodes s0), .ref (ob0 10), .ref (ob0 11), .int (Md_fields s0), .ref (ob0 12), .ref (ob0 13), .int (Md_pushed s0), .ref (ob0 14), .int (Md_touches s0), .ref (ob0 15), .ref (ob0 16), .ref (ob0 17), .ref (ob0 18), .ref (ad0 0), .ref (ad0 1), .int (Md_length s0)])), ((ob0 1), .inl (cA 1, (Md_kinds s0).1, .inl (Md_kinds s0).2)), ((ob0 2), .inl (cA 0, (Md_values s0).1, .inl (Md_values s0).2)), ((ob0 3), .inl (cA 0, (Md_firsts s0).1, .inl (Md_firsts s0).2)), ((ob0 4), .inl (cA 0, (Md_manies s0).1, .inl (Md_manies s0).2)), ((ob0 5), .inl (cA 2, (Md_said s0).1, .inl (Md_said s0).2)), ((ob0 6), .inl (cA 2, (Md_marked s0).1, .inl (Md_marked s0).2)), ((ob0 7), .inl (cA 0, (Md_leaders s0).1, .inl (Md_leaders s0).2)), ((ob0 8), .inl (cA 0, (Md_trial s0).1, .inl (Md_trial s0).2)), ((ob0 9), .inl (cA 0, (Md_shown s0).1, .inl (Md_shown s0).2)), ((ob0 10), .inl (cA 0, (Md_features s0).1, .inl (Md_features s0).2)), ((ob0 11), .inl (cA 0, (Md_parts s0).1, .inl (Md_parts s0).2)), ((ob0 12), .inl (cA 0, (Md_pushedFeatures s0).1, .inl (Md_pushedFeatures s0).2)), ((ob0 13), .inl (cA 0, (Md_pushedParts s0).1, .inl (Md_pushedParts s0).2)), ((ob0 14), .inl (cA 0, (Md_touched s0).1, .inl (Md_touched s0).2)), ((ob0 15), .inl (cA 0, (Md_reached s0).1, .inl (Md_reached s0).2)), ((ob0 16), .inl (cA 0, (Md_blocks s0).1, .inl (Md_blocks s0).2)), ((ob0 17), .inl (cA 0, (Md_newBlocks s0).1, .inl (Md_newBlocks s0).2)), ((ob0 18), .inl (cA 0, (Md_places s0).1, .inl (Md_places s0).2)), ((ad0 0), .inl (cA 0, (Md_written s0).1, .inl (Md_written s0).2)), ((ad0 1), .inl (cA 0, (Md_other s0).1, .inl (Md_other s0).2))]) (lv' := [(0, .ref (ob0 0)), (1, .int p0), (2, .int e18)]) rfl rfl ?_
    refine x_iload_n F d_Md_meant_42 1 rfl rfl ?_
    replace hm := xm_p_some hm
    obtain ⟨eo, c_o, d_o⟩ := hm
    subst eo
    refine x_sub [0, 1, 2, 3, 4, 5, 6, 7, 8, 9, 10, 11, 12, 13, 14, 15, 16, 17, 18, 19, 20] (by decide) ?_ (xe_i E (fun _ => 0) (by omega) (by omega) rfl (xz_i _) d_Md_meant_43)
    rfl
  · subst h20
    replace hm := xm_inr hm
    replace hm := xm_p_some hm
    obtain ⟨eo, c_o, d_o⟩ := hm
    subst eo
    exact xe_i E (fun _ => 0) (by omega) (by omega) rfl hn hd

noncomputable def L_Md_isNeeded_21 (y1 : Int32) (s0 : S_Md) (n i : Nat) : Int32 → Int32 → MO (Int32 × Int32) := Nat.rec (motive := fun _ => Int32 → Int32 → MO (Int32 × Int32)) (fun _ _ => none) (fun _ ih x2 x3 => (if (Md_end s0) ≤ x3 then (xm_p ((x2, x3))) else (if x2 = 0 then (xm_rd (Md_kinds s0) x3 (fun v29 => (xm_b (if v29 = (-1 : Int32) then (xm_p (0 : Int32)) else (xm_rd (Md_said s0) x3 (fun v35 => (if v35 = 0 then (xm_p (0 : Int32)) else (xm_rd (Md_leaders s0) x3 (fun v37 => (xm_rd (Md_leaders s0) y1 (fun v38 => (if v37 = v38 then (xm_p (1 : Int32)) else (xm_p (0 : Int32))))))))))) (fun j30 => (ih j30 (x3 + 1)))))) else (xm_p ((x2, x3)))))) i
theorem L_Md_isNeeded_21_s (y1 : Int32) (s0 : S_Md) (n i : Nat) (x2 : Int32) (x3 : Int32) : L_Md_isNeeded_21 y1 s0 n (i + 1) x2 x3 = (if (Md_end s0) ≤ x3 then (xm_p ((x2, x3))) else (if x2 = 0 then (xm_rd (Md_kinds s0) x3 (fun v29 => (xm_b (if v29 = (-1 : Int32) then (xm_p (0 : Int32)) else (xm_rd (Md_said s0) x3 (fun v35 => (if v35 = 0 then (xm_p (0 : Int32)) else (xm_rd (Md_leaders s0) x3 (fun v37 => (xm_rd (Md_leaders s0) y1 (fun v38 => (if v37 = v38 then (xm_p (1 : Int32)) else (xm_p (0 : Int32))))))))))) (fun j30 => (L_Md_isNeeded_21 y1 s0 n i j30 (x3 + 1)))))) else (xm_p ((x2, x3))))) := rfl
noncomputable def m_Md_isNeeded (n : Nat) (s0 : S_Md) (p0 : Int32) : MO (Int32) := (xm_b (m_Md_meant n s0 p0) (fun o17 => (xm_rd (Md_kinds s0) o17 (fun v22 => (xm_b (if v22 = 0 then (xm_p (0 : Int32)) else (xm_p (1 : Int32))) (fun j23 => (xm_b (L_Md_isNeeded_21 p0 s0 n n j23 (0 : Int32)) (fun o40 => (xm_z (o40.1) (xm_p (o40.1)))))))))))
set_option maxHeartbeats 4000000 in
set_option maxRecDepth 100000 in
theorem wl_Md_isNeeded_21 {X : XT} {l : Launch} {D : va_G} {cA : Nat → ClassId} {mc ms : Nat} (F : XF X l D cA b_Md_isNeeded 4 (some FieldType.boolean) R_Md 1 22 mc ms) (n : Nat) (ob0 : Nat → Nat) (y1 : Int32) (s0 : S_Md)  (ad0 : Nat → Nat) : ∀ (i : Nat) (x2 : Int32) (x3 : Int32)  (nc ns : Nat) (out : Int32 × Int32) (k : KC), L_Md_isNeeded_21 y1 s0 n i x2 x3 = some (out, k) → nc + k.1 ≤ mc → ns + k.2 ≤ ms → (∀ ad : Nat → Nat, XW X 4 ((w_Md cA ob0 ad0  s0)) (nc + k.1) (ns + k.2) 79 [(0, .ref (ob0 0)), (1, .int y1), (2, .int (out.1)), (3, .int (out.2))] []) → XW X 4 ((w_Md cA ob0 ad0  s0)) nc ns 21 [(0, .ref (ob0 0)), (1, .int y1), (2, .int x2), (3, .int x3)] [] := by
  intro i
  induction i with
  | zero =>
    intro x2 x3  nc ns out k hm
    replace hm : (none : MO (Int32 × Int32)) = some (out, k) := hm
    cases hm
  | succ i ih =>
    intro x2 x3  nc ns out k hm hc hs KX
    rw [L_Md_isNeeded_21_s] at hm
    refine x_ws (ws' := [((ob0 0), .inr (8, [.ref (ob0 1), .ref (ob0 2), .ref (ob0 3), .ref (ob0 4), .ref (ob0 5), .ref (ob0 6), .ref (ob0 7), .ref (ob0 8), .ref (ob0 9), .int (Md_end s0), .int (Md_nodes s0), .ref (ob0 10), .ref (ob0 11), .int (Md_fields s0), .ref (ob0 12), .ref (ob0 13), .int (Md_pushed s0), .ref (ob0 14), .int (Md_touches s0), .ref (ob0 15), .ref (ob0 16), .ref (ob0 17), .ref (ob0 18), .ref (ad0 0), .ref (ad0 1), .int (Md_length s0)])), ((ob0 1), .inl (cA 1, (Md_kinds s0).1, .inl (Md_kinds s0).2)), ((ob0 2), .inl (cA 0, (Md_values s0).1, .inl (Md_values s0).2)), ((ob0 3), .inl (cA 0, (Md_firsts s0).1, .inl (Md_firsts s0).2)), ((ob0 4), .inl (cA 0, (Md_manies s0).1, .inl (Md_manies s0).2)), ((ob0 5), .inl (cA 2, (Md_said s0).1, .inl (Md_said s0).2)), ((ob0 6), .inl (cA 2, (Md_marked s0).1, .inl (Md_marked s0).2)), ((ob0 7), .inl (cA 0, (Md_leaders s0).1, .inl (Md_leaders s0).2)), ((ob0 8), .inl (cA 0, (Md_trial s0).1, .inl (Md_trial s0).2)), ((ob0 9), .inl (cA 0, (Md_shown s0).1, .inl (Md_shown s0).2)), ((ob0 10), .inl (cA 0, (Md_features s0).1, .inl (Md_features s0).2)), ((ob0 11), .inl (cA 0, (Md_parts s0).1, .inl (Md_parts s0).2)), ((ob0 12), .inl (cA 0, (Md_pushedFeatures s0).1, .inl (Md_pushedFeatures s0).2)), ((ob0 13), .inl (cA 0, (Md_pushedParts s0).1, .inl (Md_pushedParts s0).2)), ((ob0 14), .inl (cA 0, (Md_touched s0).1, .inl (Md_touched s0).2)), ((ob0 15), .inl (cA 0, (Md_reached s0).1, .inl (Md_reached s0).2)), ((ob0 16), .inl (cA 0, (Md_blocks s0).1, .inl (Md_blocks s0).2)), ((ob0 17), .inl (cA 0, (Md_newBlocks s0).1, .inl (Md_newBlocks s0).2)), ((ob0 18), .inl (cA 0, (Md_places s0).1, .inl (Md_places s0).2)), ((ad0 0), .inl (cA 0, (Md_written s0).1, .inl (Md_written s0).2)), ((ad0 1), .inl (cA 0, (Md_other s0).1, .inl (Md_other s0).2))]) rfl ?_
    refine x_iload_n F d_Md_isNeeded_21 3 rfl rfl ?_
    refine x_aload_n F d_Md_isNeeded_22 0 rfl rfl ?_
    refine x_get F ck_Md hin_Md 0 9 rfl (by decide) kw_643 rfl rfl d_Md_isNeeded_23 ?_
    refine x_icmp_ge F 79 d_Md_isNeeded_26 (by decide) (fun c27 => ?_) (fun c27 => ?_)
    · replace hm := xm_t hm c27
      replace hm := xm_p_some hm
      obtain ⟨eo, c_o, d_o⟩ := hm
      subst eo
      refine x_sub [0, 1, 2, 3, 4, 5, 6, 7, 8, 9, 10, 11, 12, 13, 14, 15, 16, 17, 18, 19, 20] (by decide) ?_ (x_lv [0, 1, 2, 3] ?_ (x_cs (by omega) (by omega) (KX (fun _ => 0))))
      · rfl
      · rfl
    · replace hm := xm_f hm c27
      refine x_iload_n F d_Md_isNeeded_29 2 rfl rfl ?_
      refine x_if_ne F 79 d_Md_isNeeded_30 (by decide) (fun c28 => ?_) (fun c28 => ?_)
      · replace hm := xm_f hm c28
        replace hm := xm_p_some hm
        obtain ⟨eo, c_o, d_o⟩ := hm
        subst eo
        refine x_sub [0, 1, 2, 3, 4, 5, 6, 7, 8, 9, 10, 11, 12, 13, 14, 15, 16, 17, 18, 19, 20] (by decide) ?_ (x_lv [0, 1, 2, 3] ?_ (x_cs (by omega) (by omega) (KX (fun _ => 0))))
        · rfl
        · rfl
      · replace hm := xm_t hm c28
        refine x_aload_n F d_Md_isNeeded_33 0 rfl rfl ?_
        refine x_get F ck_Md hin_Md 0 0 rfl (by decide) kw_634 rfl rfl d_Md_isNeeded_34 ?_
        refine x_iload_n F d_Md_isNeeded_37 3 rfl rfl ?_
        replace hm := xm_rd_some hm
        obtain ⟨v29, e_v29, b_v29, hm⟩ := hm
        refine x_bald (x := (Md_kinds s0)) F 1 rfl e_v29 b_v29 d_Md_isNeeded_38 ?_
        refine x_iconst (v := (-1 : Int32)) F d_Md_isNeeded_39 (by decide) ?_
        replace hm := xm_b_some hm
        obtain ⟨j30, k31, k32, h33, hm, c_j30, d_j30⟩ := hm
        refine x_mrg (k1 := k31) (M := 72) (v := j30) (st := []) ?_ (fun J => ?_)
        · skip
          refine x_istore_n (lv' := [(2, .int j30), (0, .ref (ob0 0)), (1, .int y1), (3, .int x3)]) F d_Md_isNeeded_72 rfl (by decide) rfl ?_
          refine x_iinc (v := (x3 + 1)) (lv' := [(3, .int (x3 + 1)), (2, .int j30), (0, .ref (ob0 0)), (1, .int y1)]) F d_Md_isNeeded_73 3 rfl rfl (by decide) rfl ?_
          refine x_goto F 21 d_Md_isNeeded_76 (by decide) ?_
          refine x_sub [0, 1, 2, 3, 4, 5, 6, 7, 8, 9, 10, 11, 12, 13, 14, 15, 16, 17, 18, 19, 20] (by decide) ?_ (x_lv [2, 3, 1, 0] ?_ (ih j30 (x3 + 1)  _ _ out k32 hm (by omega) (by omega) (fun ad => x_cs (by omega) (by omega) (KX ad))))
          · rfl
          · rfl
        · replace hm := h33
          refine x_icmp_eq F 71 d_Md_isNeeded_40 (by decide) (fun c34 => ?_) (fun c34 => ?_)
          · replace hm := xm_t hm c34
            refine x_iconst (v := (0 : Int32)) F d_Md_isNeeded_71 (by decide) ?_
            replace hm := xm_p_some hm
            obtain ⟨eo, c_o, d_o⟩ := hm
            subst eo
            exact x_cs (by omega) (by omega) J
          · replace hm := xm_f hm c34
            refine x_aload_n F d_Md_isNeeded_43 0 rfl rfl ?_
            refine x_get F ck_Md hin_Md 0 4 rfl (by decide) kw_638 rfl rfl d_Md_isNeeded_44 ?_
            refine x_iload_n F d_Md_isNeeded_47 3 rfl rfl ?_
            replace hm := xm_rd_some hm
            obtain ⟨v35, e_v35, b_v35, hm⟩ := hm
            refine x_zald (x := (Md_said s0)) F 5 rfl e_v35 b_v35 d_Md_isNeeded_48 ?_
            refine x_if_eq F 71 d_Md_isNeeded_49 (by decide) (fun c36 => ?_) (fun c36 => ?_)
            · replace hm := xm_t hm c36
              refine x_iconst (v := (0 : Int32)) F d_Md_isNeeded_71 (by decide) ?_
              replace hm := xm_p_some hm
              obtain ⟨eo, c_o, d_o⟩ := hm
              subst eo
              exact x_cs (by omega) (by omega) J
            · replace hm := xm_f hm c36
              refine x_aload_n F d_Md_isNeeded_52 0 rfl rfl ?_
              refine x_get F ck_Md hin_Md 0 6 rfl (by decide) kw_640 rfl rfl d_Md_isNeeded_53 ?_
              refine x_iload_n F d_Md_isNeeded_56 3 rfl rfl ?_
              replace hm := xm_rd_some hm
              obtain ⟨v37, e_v37, b_v37, hm⟩ := hm
              refine x_iald (x := (Md_leaders s0)) F 7 rfl e_v37 b_v37 d_Md_isNeeded_57 ?_
              refine x_aload_n F d_Md_isNeeded_58 0 rfl rfl ?_
              refine x_get F ck_Md hin_Md 0 6 rfl (by decide) kw_640 rfl rfl d_Md_isNeeded_59 ?_
              refine x_iload_n F d_Md_isNeeded_62 1 rfl rfl ?_
              replace hm := xm_rd_some hm
              obtain ⟨v38, e_v38, b_v38, hm⟩ := hm
              refine x_iald (x := (Md_leaders s0)) F 7 rfl e_v38 b_v38 d_Md_isNeeded_63 ?_
              refine x_icmp_ne F 71 d_Md_isNeeded_64 (by decide) (fun c39 => ?_) (fun c39 => ?_)
              · replace hm := xm_f hm c39
                refine x_iconst (v := (0 : Int32)) F d_Md_isNeeded_71 (by decide) ?_
                replace hm := xm_p_some hm
                obtain ⟨eo, c_o, d_o⟩ := hm
                subst eo
                exact x_cs (by omega) (by omega) J
              · replace hm := xm_t hm c39
                refine x_iconst (v := (1 : Int32)) F d_Md_isNeeded_67 (by decide) ?_
                refine x_goto F 72 d_Md_isNeeded_68 (by decide) ?_
                replace hm := xm_p_some hm
                obtain ⟨eo, c_o, d_o⟩ := hm
                subst eo
                exact x_cs (by omega) (by omega) J
set_option maxHeartbeats 4000000 in
set_option maxRecDepth 100000 in
theorem c_Md_isNeeded (l : Launch) (D : va_G) (cA : Nat → ClassId) (n : Nat) (ob0 ad0 : Nat → Nat) (s0 : S_Md) (p0 : Int32) (out : Int32) (k : KC) (hm : m_Md_isNeeded n s0 p0 = some (out, k)) : XM l D cA y_Md_isNeeded b_Md_isNeeded 4 (some FieldType.boolean) 1 22 [.ref (ob0 0), .int p0] ((w_Md cA ob0 ad0  s0)) k (fun _ => some (.int out)) (fun ad => (w_Md cA ob0 ad0  s0)) := by
  refine x_met (cc := b_Md_isNeeded) (nL := 4) (ret := (some FieldType.boolean)) R_Md (by decide) (Nat.le_of_ble_eq_true rfl) rfl (fun X F I E => ?_)
  unfold m_Md_isNeeded at hm
  refine x_nf2 (ws' := [((ob0 0), .inr (8, [.ref (ob0 1), .ref (ob0 2), .ref (ob0 3), .ref (ob0 4), .ref (ob0 5), .ref (ob0 6), .ref (ob0 7), .ref (ob0 8), .ref (ob0 9), .int (Md_end s0), .int (Md_nodes s0), .ref (ob0 10), .ref (ob0 11), .int (Md_fields s0), .ref (ob0 12), .ref (ob0 13), .int (Md_pushed s0), .ref (ob0 14), .int (Md_touches s0), .ref (ob0 15), .ref (ob0 16), .ref (ob0 17), .ref (ob0 18), .ref (ad0 0), .ref (ad0 1), .int (Md_length s0)])), ((ob0 1), .inl (cA 1, (Md_kinds s0).1, .inl (Md_kinds s0).2)), ((ob0 2), .inl (cA 0, (Md_values s0).1, .inl (Md_values s0).2)), ((ob0 3), .inl (cA 0, (Md_firsts s0).1, .inl (Md_firsts s0).2)), ((ob0 4), .inl (cA 0, (Md_manies s0).1, .inl (Md_manies s0).2)), ((ob0 5), .inl (cA 2, (Md_said s0).1, .inl (Md_said s0).2)), ((ob0 6), .inl (cA 2, (Md_marked s0).1, .inl (Md_marked s0).2)), ((ob0 7), .inl (cA 0, (Md_leaders s0).1, .inl (Md_leaders s0).2)), ((ob0 8), .inl (cA 0, (Md_trial s0).1, .inl (Md_trial s0).2)), ((ob0 9), .inl (cA 0, (Md_shown s0).1, .inl (Md_shown s0).2)), ((ob0 10), .inl (cA 0, (Md_features s0).1, .inl (Md_features s0).2)), ((ob0 11), .inl (cA 0, (Md_parts s0).1, .inl (Md_parts s0).2)), ((ob0 12), .inl (cA 0, (Md_pushedFeatures s0).1, .inl (Md_pushedFeatures s0).2)), ((ob0 13), .inl (cA 0, (Md_pushedParts s0).1, .inl (Md_pushedParts s0).2)), ((ob0 14), .inl (cA 0, (Md_touched s0).1, .inl (Md_touched s0).2)), ((ob0 15), .inl (cA 0, (Md_reached s0).1, .inl (Md_reached s0).2)), ((ob0 16), .inl (cA 0, (Md_blocks s0).1, .inl (Md_blocks s0).2)), ((ob0 17), .inl (cA 0, (Md_newBlocks s0).1, .inl (Md_newBlocks s0).2)), ((ob0 18), .inl (cA 0, (Md_places s0).1, .inl (Md_places s0).2)), ((ad0 0), .inl (cA 0, (Md_written s0).1, .inl (Md_written s0).2)), ((ad0 1), .inl (cA 0, (Md_other s0).1, .inl (Md_other s0).2))]) (lv' := [(0, .ref (ob0 0)), (1, .int p0)]) rfl rfl ?_
  refine x_aload_n F d_Md_isNeeded_0 0 rfl rfl ?_
  refine x_get F ck_Md hin_Md 0 0 rfl (by decide) kw_634 rfl rfl d_Md_isNeeded_1 ?_
  refine x_aload_n F d_Md_isNeeded_4 0 rfl rfl ?_
  refine x_iload_n F d_Md_isNeeded_5 1 rfl rfl ?_
  replace hm := xm_b_some hm
  obtain ⟨o17, k18, k19, h20, hm, c_o17, d_o17⟩ := hm
  refine x_callV (n := 1) (C := R_Md) (wr := []) F (c_Md_meant l D cA n ob0 ad0 s0 p0 o17 k18 h20) kw_786 kw_783 kw_785 kw_27 kw_47 ⟨rfl, by decide, by decide, by decide +kernel⟩ rfl (by decide) (by decide) (ci := 8) rfl rfl 0 rfl [0, 1, 2, 3, 4, 5, 6, 7, 8, 9, 10, 11, 12, 13, 14, 15, 16, 17, 18, 19, 20] [] rfl rfl (by decide) (by decide) (by decide) rfl (Nat.le_of_ble_eq_true rfl) (by omega) (by omega) d_Md_isNeeded_6 (fun ad21 => ?_)
  refine x_nf (ws' := [((ob0 0), .inr (8, [.ref (ob0 1), .ref (ob0 2), .ref (ob0 3), .ref (ob0 4), .ref (ob0 5), .ref (ob0 6), .ref (ob0 7), .ref (ob0 8), .ref (ob0 9), .int (Md_end s0), .int (Md_nodes s0), .ref (ob0 10), .ref (ob0 11), .int (Md_fields s0), .ref (ob0 12), .ref (ob0 13), .int (Md_pushed s0), .ref (ob0 14), .int (Md_touches s0), .ref (ob0 15), .ref (ob0 16), .ref (ob0 17), .ref (ob0 18), .ref (ad0 0), .ref (ad0 1), .int (Md_length s0)])), ((ob0 1), .inl (cA 1, (Md_kinds s0).1, .inl (Md_kinds s0).2)), ((ob0 2), .inl (cA 0, (Md_values s0).1, .inl (Md_values s0).2)), ((ob0 3), .inl (cA 0, (Md_firsts s0).1, .inl (Md_firsts s0).2)), ((ob0 4), .inl (cA 0, (Md_manies s0).1, .inl (Md_manies s0).2)), ((ob0 5), .inl (cA 2, (Md_said s0).1, .inl (Md_said s0).2)), ((ob0 6), .inl (cA 2, (Md_marked s0).1, .inl (Md_marked s0).2)), ((ob0 7), .inl (cA 0, (Md_leaders s0).1, .inl (Md_leaders s0).2)), ((ob0 8), .inl (cA 0, (Md_trial s0).1, .inl (Md_trial s0).2)), ((ob0 9), .inl (cA 0, (Md_shown s0).1, .inl (Md_shown s0).2)), ((ob0 10), .inl (cA 0, (Md_features s0).1, .inl (Md_features s0).2)), ((ob0 11), .inl (cA 0, (Md_parts s0).1, .inl (Md_parts s0).2)), ((ob0 12), .inl (cA 0, (Md_pushedFeatures s0).1, .inl (Md_pushedFeatures s0).2)), ((ob0 13), .inl (cA 0, (Md_pushedParts s0).1, .inl (Md_pushedParts s0).2)), ((ob0 14), .inl (cA 0, (Md_touched s0).1, .inl (Md_touched s0).2)), ((ob0 15), .inl (cA 0, (Md_reached s0).1, .inl (Md_reached s0).2)), ((ob0 16), .inl (cA 0, (Md_blocks s0).1, .inl (Md_blocks s0).2)), ((ob0 17), .inl (cA 0, (Md_newBlocks s0).1, .inl (Md_newBlocks s0).2)), ((ob0 18), .inl (cA 0, (Md_places s0).1, .inl (Md_places s0).2)), ((ad0 0), .inl (cA 0, (Md_written s0).1, .inl (Md_written s0).2)), ((ad0 1), .inl (cA 0, (Md_other s0).1, .inl (Md_other s0).2))]) (st' := [.int o17, .ref (ob0 1)]) rfl rfl ?_
  replace hm := xm_rd_some hm
  obtain ⟨v22, e_v22, b_v22, hm⟩ := hm
  refine x_bald (x := (Md_kinds s0)) F 1 rfl e_v22 b_v22 d_Md_isNeeded_9 ?_
  replace hm := xm_b_some hm
  obtain ⟨j23, k24, k25, h26, hm, c_j23, d_j23⟩ := hm
  refine x_mrg (k1 := k24) (M := 18) (v := j23) (st := []) ?_ (fun J => ?_)
  · skip
    refine x_istore_n (lv' := [(2, .int j23), (0, .ref (ob0 0)), (1, .int p0)]) F d_Md_isNeeded_18 rfl (by decide) rfl ?_
    refine x_iconst (v := (0 : Int32)) F d_Md_isNeeded_19 (by decide) ?_
    refine x_istore_n (lv' := [(3, .int (0 : Int32)), (2, .int j23), (0, .ref (ob0 0)), (1, .int p0)]) F d_Md_isNeeded_20 rfl (by decide) rfl ?_
    replace hm := xm_b_some hm
    obtain ⟨o40, k41, k42, h43, hm, c_o40, d_o40⟩ := hm
    refine x_sub [0, 1, 2, 3, 4, 5, 6, 7, 8, 9, 10, 11, 12, 13, 14, 15, 16, 17, 18, 19, 20] (by decide) ?_ (x_lv [2, 3, 1, 0] ?_ (wl_Md_isNeeded_21 F n ob0 p0 s0 ad0 n j23 (0 : Int32)  _ _ o40 k41 h43 (by omega) (by omega) (fun ad44 => ?_)))
    · rfl
    · rfl
    refine x_nf2 (ws' := [((ob0 0), .inr (8, [.ref (ob0 1), .ref (ob0 2), .ref (ob0 3), .ref (ob0 4), .ref (ob0 5), .ref (ob0 6), .ref (ob0 7), .ref (ob0 8), .ref (ob0 9), .int (Md_end s0), .int (Md_nodes s0), .ref (ob0 10), .ref (ob0 11), .int (Md_fields s0), .ref (ob0 12), .ref (ob0 13), .int (Md_pushed s0), .ref (ob0 14), .int (Md_touches s0), .ref (ob0 15), .ref (ob0 16), .ref (ob0 17), .ref (ob0 18), .ref (ad0 0), .ref (ad0 1), .int (Md_length s0)])), ((ob0 1), .inl (cA 1, (Md_kinds s0).1, .inl (Md_kinds s0).2)), ((ob0 2), .inl (cA 0, (Md_values s0).1, .inl (Md_values s0).2)), ((ob0 3), .inl (cA 0, (Md_firsts s0).1, .inl (Md_firsts s0).2)), ((ob0 4), .inl (cA 0, (Md_manies s0).1, .inl (Md_manies s0).2)), ((ob0 5), .inl (cA 2, (Md_said s0).1, .inl (Md_said s0).2)), ((ob0 6), .inl (cA 2, (Md_marked s0).1, .inl (Md_marked s0).2)), ((ob0 7), .inl (cA 0, (Md_leaders s0).1, .inl (Md_leaders s0).2)), ((ob0 8), .inl (cA 0, (Md_trial s0).1, .inl (Md_trial s0).2)), ((ob0 9), .inl (cA 0, (Md_shown s0).1, .inl (Md_shown s0).2)), ((ob0 10), .inl (cA 0, (Md_features s0).1, .inl (Md_features s0).2)), ((ob0 11), .inl (cA 0, (Md_parts s0).1, .inl (Md_parts s0).2)), ((ob0 12), .inl (cA 0, (Md_pushedFeatures s0).1, .inl (Md_pushedFeatures s0).2)), ((ob0 13), .inl (cA 0, (Md_pushedParts s0).1, .inl (Md_pushedParts s0).2)), ((ob0 14), .inl (cA 0, (Md_touched s0).1, .inl (Md_touched s0).2)), ((ob0 15), .inl (cA 0, (Md_reached s0).1, .inl (Md_reached s0).2)), ((ob0 16), .inl (cA 0, (Md_blocks s0).1, .inl (Md_blocks s0).2)), ((ob0 17), .inl (cA 0, (Md_newBlocks s0).1, .inl (Md_newBlocks s0).2)), ((ob0 18), .inl (cA 0, (Md_places s0).1, .inl (Md_places s0).2)), ((ad0 0), .inl (cA 0, (Md_written s0).1, .inl (Md_written s0).2)), ((ad0 1), .inl (cA 0, (Md_other s0).1, .inl (Md_other s0).2))]) (lv' := [(0, .ref (ob0 0)), (1, .int p0), (2, .int (o40.1)), (3, .int (o40.2))]) rfl rfl ?_
    refine x_iload_n F d_Md_isNeeded_79 2 rfl rfl ?_
    replace hm := xm_z_some hm
    obtain ⟨hz, hm⟩ := hm
    replace hm := xm_p_some hm
    obtain ⟨eo, c_o, d_o⟩ := hm
    subst eo
    refine x_sub [0, 1, 2, 3, 4, 5, 6, 7, 8, 9, 10, 11, 12, 13, 14, 15, 16, 17, 18, 19, 20] (by decide) ?_ (xe_i E (fun _ => 0) (by omega) (by omega) rfl hz d_Md_isNeeded_80)
    rfl
  · replace hm := h26
    refine x_if_eq F 17 d_Md_isNeeded_10 (by decide) (fun c45 => ?_) (fun c45 => ?_)
    · replace hm := xm_t hm c45
      refine x_iconst (v := (0 : Int32)) F d_Md_isNeeded_17 (by decide) ?_
      replace hm := xm_p_some hm
      obtain ⟨eo, c_o, d_o⟩ := hm
      subst eo
      exact x_cs (by omega) (by omega) J
    · replace hm := xm_f hm c45
      refine x_iconst (v := (1 : Int32)) F d_Md_isNeeded_13 (by decide) ?_
      refine x_goto F 18 d_Md_isNeeded_14 (by decide) ?_
      replace hm := xm_p_some hm
      obtain ⟨eo, c_o, d_o⟩ := hm
      subst eo
      exact x_cs (by omega) (by omega) J

noncomputable def L_Md_changes_39 (y1 : Int32) (s0 : S_Md) (n i : Nat) : Int32 → Int32 → MO (Int32 × Int32) := Nat.rec (motive := fun _ => Int32 → Int32 → MO (Int32 × Int32)) (fun _ _ => none) (fun _ ih x2 x3 => (if (Md_end s0) ≤ x3 then (xm_p ((x2, x3))) else (if x2 = 0 then (xm_rd (Md_kinds s0) x3 (fun v34 => (xm_b (if v34 = (-1 : Int32) then (xm_p (0 : Int32)) else (xm_rd (Md_leaders s0) x3 (fun v40 => (if v40 = y1 then (xm_p (0 : Int32)) else (xm_rd (Md_trial s0) x3 (fun v42 => (xm_rd (Md_trial s0) y1 (fun v43 => (if v42 = v43 then (xm_p (1 : Int32)) else (xm_p (0 : Int32))))))))))) (fun j35 => (ih j35 (x3 + 1)))))) else (xm_p ((x2, x3)))))) i
theorem L_Md_changes_39_s (y1 : Int32) (s0 : S_Md) (n i : Nat) (x2 : Int32) (x3 : Int32) : L_Md_changes_39 y1 s0 n (i + 1) x2 x3 = (if (Md_end s0) ≤ x3 then (xm_p ((x2, x3))) else (if x2 = 0 then (xm_rd (Md_kinds s0) x3 (fun v34 => (xm_b (if v34 = (-1 : Int32) then (xm_p (0 : Int32)) else (xm_rd (Md_leaders s0) x3 (fun v40 => (if v40 = y1 then (xm_p (0 : Int32)) else (xm_rd (Md_trial s0) x3 (fun v42 => (xm_rd (Md_trial s0) y1 (fun v43 => (if v42 = v43 then (xm_p (1 : Int32)) else (xm_p (0 : Int32))))))))))) (fun j35 => (L_Md_changes_39 y1 s0 n i j35 (x3 + 1)))))) else (xm_p ((x2, x3))))) := rfl
noncomputable def m_Md_changes (n : Nat) (s0 : S_Md) (p0 : Int32) : MO (Int32) := (xm_rd (Md_kinds s0) p0 (fun v21 => (if v21 = (-1 : Int32) then (xm_p (0 : Int32)) else (xm_rd (Md_leaders s0) p0 (fun v23 => (if v23 = p0 then (xm_b (m_Md_meant n s0 p0) (fun o25 => (xm_rd (Md_kinds s0) o25 (fun v30 => (if v30 = 0 then (xm_b (L_Md_changes_39 p0 s0 n n (0 : Int32) (0 : Int32)) (fun o45 => (xm_z (o45.1) (xm_p (o45.1))))) else (xm_p (0 : Int32))))))) else (xm_p (0 : Int32))))))))
set_option maxHeartbeats 4000000 in
set_option maxRecDepth 100000 in
theorem wl_Md_changes_39 {X : XT} {l : Launch} {D : va_G} {cA : Nat → ClassId} {mc ms : Nat} (F : XF X l D cA b_Md_changes 4 (some FieldType.boolean) R_Md 1 22 mc ms) (n : Nat) (ob0 : Nat → Nat) (y1 : Int32) (s0 : S_Md)  (ad0 : Nat → Nat) : ∀ (i : Nat) (x2 : Int32) (x3 : Int32)  (nc ns : Nat) (out : Int32 × Int32) (k : KC), L_Md_changes_39 y1 s0 n i x2 x3 = some (out, k) → nc + k.1 ≤ mc → ns + k.2 ≤ ms → (∀ ad : Nat → Nat, XW X 4 ((w_Md cA ob0 ad0  s0)) (nc + k.1) (ns + k.2) 98 [(0, .ref (ob0 0)), (1, .int y1), (2, .int (out.1)), (3, .int (out.2))] []) → XW X 4 ((w_Md cA ob0 ad0  s0)) nc ns 39 [(0, .ref (ob0 0)), (1, .int y1), (2, .int x2), (3, .int x3)] [] := by
  intro i
  induction i with
  | zero =>
    intro x2 x3  nc ns out k hm
    replace hm : (none : MO (Int32 × Int32)) = some (out, k) := hm
    cases hm
  | succ i ih =>
    intro x2 x3  nc ns out k hm hc hs KX
    rw [L_Md_changes_39_s] at hm
    refine x_ws (ws' := [((ob0 0), .inr (8, [.ref (ob0 1), .ref (ob0 2), .ref (ob0 3), .ref (ob0 4), .ref (ob0 5), .ref (ob0 6), .ref (ob0 7), .ref (ob0 8), .ref (ob0 9), .int (Md_end s0), .int (Md_nodes s0), .ref (ob0 10), .ref (ob0 11), .int (Md_fields s0), .ref (ob0 12), .ref (ob0 13), .int (Md_pushed s0), .ref (ob0 14), .int (Md_touches s0), .ref (ob0 15), .ref (ob0 16), .ref (ob0 17), .ref (ob0 18), .ref (ad0 0), .ref (ad0 1), .int (Md_length s0)])), ((ob0 1), .inl (cA 1, (Md_kinds s0).1, .inl (Md_kinds s0).2)), ((ob0 2), .inl (cA 0, (Md_values s0).1, .inl (Md_values s0).2)), ((ob0 3), .inl (cA 0, (Md_firsts s0).1, .inl (Md_firsts s0).2)), ((ob0 4), .inl (cA 0, (Md_manies s0).1, .inl (Md_manies s0).2)), ((ob0 5), .inl (cA 2, (Md_said s0).1, .inl (Md_said s0).2)), ((ob0 6), .inl (cA 2, (Md_marked s0).1, .inl (Md_marked s0).2)), ((ob0 7), .inl (cA 0, (Md_leaders s0).1, .inl (Md_leaders s0).2)), ((ob0 8), .inl (cA 0, (Md_trial s0).1, .inl (Md_trial s0).2)), ((ob0 9), .inl (cA 0, (Md_shown s0).1, .inl (Md_shown s0).2)), ((ob0 10), .inl (cA 0, (Md_features s0).1, .inl (Md_features s0).2)), ((ob0 11), .inl (cA 0, (Md_parts s0).1, .inl (Md_parts s0).2)), ((ob0 12), .inl (cA 0, (Md_pushedFeatures s0).1, .inl (Md_pushedFeatures s0).2)), ((ob0 13), .inl (cA 0, (Md_pushedParts s0).1, .inl (Md_pushedParts s0).2)), ((ob0 14), .inl (cA 0, (Md_touched s0).1, .inl (Md_touched s0).2)), ((ob0 15), .inl (cA 0, (Md_reached s0).1, .inl (Md_reached s0).2)), ((ob0 16), .inl (cA 0, (Md_blocks s0).1, .inl (Md_blocks s0).2)), ((ob0 17), .inl (cA 0, (Md_newBlocks s0).1, .inl (Md_newBlocks s0).2)), ((ob0 18), .inl (cA 0, (Md_places s0).1, .inl (Md_places s0).2)), ((ad0 0), .inl (cA 0, (Md_written s0).1, .inl (Md_written s0).2)), ((ad0 1), .inl (cA 0, (Md_other s0).1, .inl (Md_other s0).2))]) rfl ?_
    refine x_iload_n F d_Md_changes_39 3 rfl rfl ?_
    refine x_aload_n F d_Md_changes_40 0 rfl rfl ?_
    refine x_get F ck_Md hin_Md 0 9 rfl (by decide) kw_643 rfl rfl d_Md_changes_41 ?_
    refine x_icmp_ge F 98 d_Md_changes_44 (by decide) (fun c32 => ?_) (fun c32 => ?_)
    · replace hm := xm_t hm c32
      replace hm := xm_p_some hm
      obtain ⟨eo, c_o, d_o⟩ := hm
      subst eo
      refine x_sub [0, 1, 2, 3, 4, 5, 6, 7, 8, 9, 10, 11, 12, 13, 14, 15, 16, 17, 18, 19, 20] (by decide) ?_ (x_lv [0, 1, 2, 3] ?_ (x_cs (by omega) (by omega) (KX (fun _ => 0))))
      · rfl
      · rfl
    · replace hm := xm_f hm c32
      refine x_iload_n F d_Md_changes_47 2 rfl rfl ?_
      refine x_if_ne F 98 d_Md_changes_48 (by decide) (fun c33 => ?_) (fun c33 => ?_)
      · replace hm := xm_f hm c33
        replace hm := xm_p_some hm
        obtain ⟨eo, c_o, d_o⟩ := hm
        subst eo
        refine x_sub [0, 1, 2, 3, 4, 5, 6, 7, 8, 9, 10, 11, 12, 13, 14, 15, 16, 17, 18, 19, 20] (by decide) ?_ (x_lv [0, 1, 2, 3] ?_ (x_cs (by omega) (by omega) (KX (fun _ => 0))))
        · rfl
        · rfl
      · replace hm := xm_t hm c33
        refine x_aload_n F d_Md_changes_51 0 rfl rfl ?_
        refine x_get F ck_Md hin_Md 0 0 rfl (by decide) kw_634 rfl rfl d_Md_changes_52 ?_
        refine x_iload_n F d_Md_changes_55 3 rfl rfl ?_
        replace hm := xm_rd_some hm
        obtain ⟨v34, e_v34, b_v34, hm⟩ := hm
        refine x_bald (x := (Md_kinds s0)) F 1 rfl e_v34 b_v34 d_Md_changes_56 ?_
        refine x_iconst (v := (-1 : Int32)) F d_Md_changes_57 (by decide) ?_
        replace hm := xm_b_some hm
        obtain ⟨j35, k36, k37, h38, hm, c_j35, d_j35⟩ := hm
        refine x_mrg (k1 := k36) (M := 91) (v := j35) (st := []) ?_ (fun J => ?_)
        · skip
          refine x_istore_n (lv' := [(2, .int j35), (0, .ref (ob0 0)), (1, .int y1), (3, .int x3)]) F d_Md_changes_91 rfl (by decide) rfl ?_
          refine x_iinc (v := (x3 + 1)) (lv' := [(3, .int (x3 + 1)), (2, .int j35), (0, .ref (ob0 0)), (1, .int y1)]) F d_Md_changes_92 3 rfl rfl (by decide) rfl ?_
          refine x_goto F 39 d_Md_changes_95 (by decide) ?_
          refine x_sub [0, 1, 2, 3, 4, 5, 6, 7, 8, 9, 10, 11, 12, 13, 14, 15, 16, 17, 18, 19, 20] (by decide) ?_ (x_lv [2, 3, 1, 0] ?_ (ih j35 (x3 + 1)  _ _ out k37 hm (by omega) (by omega) (fun ad => x_cs (by omega) (by omega) (KX ad))))
          · rfl
          · rfl
        · replace hm := h38
          refine x_icmp_eq F 90 d_Md_changes_58 (by decide) (fun c39 => ?_) (fun c39 => ?_)
          · replace hm := xm_t hm c39
            refine x_iconst (v := (0 : Int32)) F d_Md_changes_90 (by decide) ?_
            replace hm := xm_p_some hm
            obtain ⟨eo, c_o, d_o⟩ := hm
            subst eo
            exact x_cs (by omega) (by omega) J
          · replace hm := xm_f hm c39
            refine x_aload_n F d_Md_changes_61 0 rfl rfl ?_
            refine x_get F ck_Md hin_Md 0 6 rfl (by decide) kw_640 rfl rfl d_Md_changes_62 ?_
            refine x_iload_n F d_Md_changes_65 3 rfl rfl ?_
            replace hm := xm_rd_some hm
            obtain ⟨v40, e_v40, b_v40, hm⟩ := hm
            refine x_iald (x := (Md_leaders s0)) F 7 rfl e_v40 b_v40 d_Md_changes_66 ?_
            refine x_iload_n F d_Md_changes_67 1 rfl rfl ?_
            refine x_icmp_eq F 90 d_Md_changes_68 (by decide) (fun c41 => ?_) (fun c41 => ?_)
            · replace hm := xm_t hm c41
              refine x_iconst (v := (0 : Int32)) F d_Md_changes_90 (by decide) ?_
              replace hm := xm_p_some hm
              obtain ⟨eo, c_o, d_o⟩ := hm
              subst eo
              exact x_cs (by omega) (by omega) J
            · replace hm := xm_f hm c41
              refine x_aload_n F d_Md_changes_71 0 rfl rfl ?_
              refine x_get F ck_Md hin_Md 0 7 rfl (by decide) kw_641 rfl rfl d_Md_changes_72 ?_
              refine x_iload_n F d_Md_changes_75 3 rfl rfl ?_
              replace hm := xm_rd_some hm
              obtain ⟨v42, e_v42, b_v42, hm⟩ := hm
              refine x_iald (x := (Md_trial s0)) F 8 rfl e_v42 b_v42 d_Md_changes_76 ?_
              refine x_aload_n F d_Md_changes_77 0 rfl rfl ?_
              refine x_get F ck_Md hin_Md 0 7 rfl (by decide) kw_641 rfl rfl d_Md_changes_78 ?_
              refine x_iload_n F d_Md_changes_81 1 rfl rfl ?_
              replace hm := xm_rd_some hm
              obtain ⟨v43, e_v43, b_v43, hm⟩ := hm
              refine x_iald (x := (Md_trial s0)) F 8 rfl e_v43 b_v43 d_Md_changes_82 ?_
              refine x_icmp_ne F 90 d_Md_changes_83 (by decide) (fun c44 => ?_) (fun c44 => ?_)
              · replace hm := xm_f hm c44
                refine x_iconst (v := (0 : Int32)) F d_Md_changes_90 (by decide) ?_
                replace hm := xm_p_some hm
                obtain ⟨eo, c_o, d_o⟩ := hm
                subst eo
                exact x_cs (by omega) (by omega) J
              · replace hm := xm_t hm c44
                refine x_iconst (v := (1 : Int32)) F d_Md_changes_86 (by decide) ?_
                refine x_goto F 91 d_Md_changes_87 (by decide) ?_
                replace hm := xm_p_some hm
                obtain ⟨eo, c_o, d_o⟩ := hm
                subst eo
                exact x_cs (by omega) (by omega) J
set_option maxHeartbeats 4000000 in
set_option maxRecDepth 100000 in
theorem c_Md_changes (l : Launch) (D : va_G) (cA : Nat → ClassId) (n : Nat) (ob0 ad0 : Nat → Nat) (s0 : S_Md) (p0 : Int32) (out : Int32) (k : KC) (hm : m_Md_changes n s0 p0 = some (out, k)) : XM l D cA y_Md_changes b_Md_changes 4 (some FieldType.boolean) 1 22 [.ref (ob0 0), .int p0] ((w_Md cA ob0 ad0  s0)) k (fun _ => some (.int out)) (fun ad => (w_Md cA ob0 ad0  s0)) := by
  refine x_met (cc := b_Md_changes) (nL := 4) (ret := (some FieldType.boolean)) R_Md (by decide) (Nat.le_of_ble_eq_true rfl) rfl (fun X F I E => ?_)
  unfold m_Md_changes at hm
  refine x_nf2 (ws' := [((ob0 0), .inr (8, [.ref (ob0 1), .ref (ob0 2), .ref (ob0 3), .ref (ob0 4), .ref (ob0 5), .ref (ob0 6), .ref (ob0 7), .ref (ob0 8), .ref (ob0 9), .int (Md_end s0), .int (Md_nodes s0), .ref (ob0 10), .ref (ob0 11), .int (Md_fields s0), .ref (ob0 12), .ref (ob0 13), .int (Md_pushed s0), .ref (ob0 14), .int (Md_touches s0), .ref (ob0 15), .ref (ob0 16), .ref (ob0 17), .ref (ob0 18), .ref (ad0 0), .ref (ad0 1), .int (Md_length s0)])), ((ob0 1), .inl (cA 1, (Md_kinds s0).1, .inl (Md_kinds s0).2)), ((ob0 2), .inl (cA 0, (Md_values s0).1, .inl (Md_values s0).2)), ((ob0 3), .inl (cA 0, (Md_firsts s0).1, .inl (Md_firsts s0).2)), ((ob0 4), .inl (cA 0, (Md_manies s0).1, .inl (Md_manies s0).2)), ((ob0 5), .inl (cA 2, (Md_said s0).1, .inl (Md_said s0).2)), ((ob0 6), .inl (cA 2, (Md_marked s0).1, .inl (Md_marked s0).2)), ((ob0 7), .inl (cA 0, (Md_leaders s0).1, .inl (Md_leaders s0).2)), ((ob0 8), .inl (cA 0, (Md_trial s0).1, .inl (Md_trial s0).2)), ((ob0 9), .inl (cA 0, (Md_shown s0).1, .inl (Md_shown s0).2)), ((ob0 10), .inl (cA 0, (Md_features s0).1, .inl (Md_features s0).2)), ((ob0 11), .inl (cA 0, (Md_parts s0).1, .inl (Md_parts s0).2)), ((ob0 12), .inl (cA 0, (Md_pushedFeatures s0).1, .inl (Md_pushedFeatures s0).2)), ((ob0 13), .inl (cA 0, (Md_pushedParts s0).1, .inl (Md_pushedParts s0).2)), ((ob0 14), .inl (cA 0, (Md_touched s0).1, .inl (Md_touched s0).2)), ((ob0 15), .inl (cA 0, (Md_reached s0).1, .inl (Md_reached s0).2)), ((ob0 16), .inl (cA 0, (Md_blocks s0).1, .inl (Md_blocks s0).2)), ((ob0 17), .inl (cA 0, (Md_newBlocks s0).1, .inl (Md_newBlocks s0).2)), ((ob0 18), .inl (cA 0, (Md_places s0).1, .inl (Md_places s0).2)), ((ad0 0), .inl (cA 0, (Md_written s0).1, .inl (Md_written s0).2)), ((ad0 1), .inl (cA 0, (Md_other s0).1, .inl (Md_other s0).2))]) (lv' := [(0, .ref (ob0 0)), (1, .int p0)]) rfl rfl ?_
  refine x_aload_n F d_Md_changes_0 0 rfl rfl ?_
  refine x_get F ck_Md hin_Md 0 0 rfl (by decide) kw_634 rfl rfl d_Md_changes_1 ?_
  refine x_iload_n F d_Md_changes_4 1 rfl rfl ?_
  replace hm := xm_rd_some hm
  obtain ⟨v21, e_v21, b_v21, hm⟩ := hm
  refine x_bald (x := (Md_kinds s0)) F 1 rfl e_v21 b_v21 d_Md_changes_5 ?_
  refine x_iconst (v := (-1 : Int32)) F d_Md_changes_6 (by decide) ?_
  refine x_icmp_eq F 33 d_Md_changes_7 (by decide) (fun c22 => ?_) (fun c22 => ?_)
  · replace hm := xm_t hm c22
    refine x_iconst (v := (0 : Int32)) F d_Md_changes_33 (by decide) ?_
    replace hm := xm_p_some hm
    obtain ⟨eo, c_o, d_o⟩ := hm
    subst eo
    refine x_sub [0, 1, 2, 3, 4, 5, 6, 7, 8, 9, 10, 11, 12, 13, 14, 15, 16, 17, 18, 19, 20] (by decide) ?_ (xe_i E (fun _ => 0) (by omega) (by omega) rfl xz_0 d_Md_changes_34)
    rfl
  · replace hm := xm_f hm c22
    refine x_aload_n F d_Md_changes_10 0 rfl rfl ?_
    refine x_get F ck_Md hin_Md 0 6 rfl (by decide) kw_640 rfl rfl d_Md_changes_11 ?_
    refine x_iload_n F d_Md_changes_14 1 rfl rfl ?_
    replace hm := xm_rd_some hm
    obtain ⟨v23, e_v23, b_v23, hm⟩ := hm
    refine x_iald (x := (Md_leaders s0)) F 7 rfl e_v23 b_v23 d_Md_changes_15 ?_
    refine x_iload_n F d_Md_changes_16 1 rfl rfl ?_
    refine x_icmp_ne F 33 d_Md_changes_17 (by decide) (fun c24 => ?_) (fun c24 => ?_)
    · replace hm := xm_f hm c24
      refine x_iconst (v := (0 : Int32)) F d_Md_changes_33 (by decide) ?_
      replace hm := xm_p_some hm
      obtain ⟨eo, c_o, d_o⟩ := hm
      subst eo
      refine x_sub [0, 1, 2, 3, 4, 5, 6, 7, 8, 9, 10, 11, 12, 13, 14, 15, 16, 17, 18, 19, 20] (by decide) ?_ (xe_i E (fun _ => 0) (by omega) (by omega) rfl xz_0 d_Md_changes_34)
      rfl
    · replace hm := xm_t hm c24
      refine x_aload_n F d_Md_changes_20 0 rfl rfl ?_
      refine x_get F ck_Md hin_Md 0 0 rfl (by decide) kw_634 rfl rfl d_Md_changes_21 ?_
      refine x_aload_n F d_Md_changes_24 0 rfl rfl ?_
      refine x_iload_n F d_Md_changes_25 1 rfl rfl ?_
      replace hm := xm_b_some hm
      obtain ⟨o25, k26, k27, h28, hm, c_o25, d_o25⟩ := hm
      refine x_callV (n := 1) (C := R_Md) (wr := []) F (c_Md_meant l D cA n ob0 ad0 s0 p0 o25 k26 h28) kw_786 kw_783 kw_785 kw_27 kw_47 ⟨rfl, by decide, by decide, by decide +kernel⟩ rfl (by decide) (by decide) (ci := 8) rfl rfl 0 rfl [0, 1, 2, 3, 4, 5, 6, 7, 8, 9, 10, 11, 12, 13, 14, 15, 16, 17, 18, 19, 20] [] rfl rfl (by decide) (by decide) (by decide) rfl (Nat.le_of_ble_eq_true rfl) (by omega) (by omega) d_Md_changes_26 (fun ad29 => ?_)
      refine x_nf (ws' := [((ob0 0), .inr (8, [.ref (ob0 1), .ref (ob0 2), .ref (ob0 3), .ref (ob0 4), .ref (ob0 5), .ref (ob0 6), .ref (ob0 7), .ref (ob0 8), .ref (ob0 9), .int (Md_end s0), .int (Md_nodes s0), .ref (ob0 10), .ref (ob0 11), .int (Md_fields s0), .ref (ob0 12), .ref (ob0 13), .int (Md_pushed s0), .ref (ob0 14), .int (Md_touches s0), .ref (ob0 15), .ref (ob0 16), .ref (ob0 17), .ref (ob0 18), .ref (ad0 0), .ref (ad0 1), .int (Md_length s0)])), ((ob0 1), .inl (cA 1, (Md_kinds s0).1, .inl (Md_kinds s0).2)), ((ob0 2), .inl (cA 0, (Md_values s0).1, .inl (Md_values s0).2)), ((ob0 3), .inl (cA 0, (Md_firsts s0).1, .inl (Md_firsts s0).2)), ((ob0 4), .inl (cA 0, (Md_manies s0).1, .inl (Md_manies s0).2)), ((ob0 5), .inl (cA 2, (Md_said s0).1, .inl (Md_said s0).2)), ((ob0 6), .inl (cA 2, (Md_marked s0).1, .inl (Md_marked s0).2)), ((ob0 7), .inl (cA 0, (Md_leaders s0).1, .inl (Md_leaders s0).2)), ((ob0 8), .inl (cA 0, (Md_trial s0).1, .inl (Md_trial s0).2)), ((ob0 9), .inl (cA 0, (Md_shown s0).1, .inl (Md_shown s0).2)), ((ob0 10), .inl (cA 0, (Md_features s0).1, .inl (Md_features s0).2)), ((ob0 11), .inl (cA 0, (Md_parts s0).1, .inl (Md_parts s0).2)), ((ob0 12), .inl (cA 0, (Md_pushedFeatures s0).1, .inl (Md_pushedFeatures s0).2)), ((ob0 13), .inl (cA 0, (Md_pushedParts s0).1, .inl (Md_pushedParts s0).2)), ((ob0 14), .inl (cA 0, (Md_touched s0).1, .inl (Md_touched s0).2)), ((ob0 15), .inl (cA 0, (Md_reached s0).1, .inl (Md_reached s0).2)), ((ob0 16), .inl (cA 0, (Md_blocks s0).1, .inl (Md_blocks s0).2)), ((ob0 17), .inl (cA 0, (Md_newBlocks s0).1, .inl (Md_newBlocks s0).2)), ((ob0 18), .inl (cA 0, (Md_places s0).1, .inl (Md_places s0).2)), ((ad0 0), .inl (cA 0, (Md_written s0).1, .inl (Md_written s0).2)), ((ad0 1), .inl (cA 0, (Md_other s0).1, .inl (Md_other s0).2))]) (st' := [.int o25, .ref (ob0 1)]) rfl rfl ?_
      replace hm := xm_rd_some hm
      obtain ⟨v30, e_v30, b_v30, hm⟩ := hm
      refine x_bald (x := (Md_kinds s0)) F 1 rfl e_v30 b_v30 d_Md_changes_29 ?_
      refine x_if_eq F 35 d_Md_changes_30 (by decide) (fun c31 => ?_) (fun c31 => ?_)
      · replace hm := xm_t hm c31
        refine x_iconst (v := (0 : Int32)) F d_Md_changes_35 (by decide) ?_
        refine x_istore_n (lv' := [(2, .int (0 : Int32)), (0, .ref (ob0 0)), (1, .int p0)]) F d_Md_changes_36 rfl (by decide) rfl ?_
        refine x_iconst (v := (0 : Int32)) F d_Md_changes_37 (by decide) ?_
        refine x_istore_n (lv' := [(3, .int (0 : Int32)), (2, .int (0 : Int32)), (0, .ref (ob0 0)), (1, .int p0)]) F d_Md_changes_38 rfl (by decide) rfl ?_
        replace hm := xm_b_some hm
        obtain ⟨o45, k46, k47, h48, hm, c_o45, d_o45⟩ := hm
        refine x_sub [0, 1, 2, 3, 4, 5, 6, 7, 8, 9, 10, 11, 12, 13, 14, 15, 16, 17, 18, 19, 20] (by decide) ?_ (x_lv [2, 3, 1, 0] ?_ (wl_Md_changes_39 F n ob0 p0 s0 ad0 n (0 : Int32) (0 : Int32)  _ _ o45 k46 h48 (by omega) (by omega) (fun ad49 => ?_)))
        · rfl
        · rfl
        refine x_nf2 (ws' := [((ob0 0), .inr (8, [.ref (ob0 1), .ref (ob0 2), .ref (ob0 3), .ref (ob0 4), .ref (ob0 5), .ref (ob0 6), .ref (ob0 7), .ref (ob0 8), .ref (ob0 9), .int (Md_end s0), .int (Md_nodes s0), .ref (ob0 10), .ref (ob0 11), .int (Md_fields s0), .ref (ob0 12), .ref (ob0 13), .int (Md_pushed s0), .ref (ob0 14), .int (Md_touches s0), .ref (ob0 15), .ref (ob0 16), .ref (ob0 17), .ref (ob0 18), .ref (ad0 0), .ref (ad0 1), .int (Md_length s0)])), ((ob0 1), .inl (cA 1, (Md_kinds s0).1, .inl (Md_kinds s0).2)), ((ob0 2), .inl (cA 0, (Md_values s0).1, .inl (Md_values s0).2)), ((ob0 3), .inl (cA 0, (Md_firsts s0).1, .inl (Md_firsts s0).2)), ((ob0 4), .inl (cA 0, (Md_manies s0).1, .inl (Md_manies s0).2)), ((ob0 5), .inl (cA 2, (Md_said s0).1, .inl (Md_said s0).2)), ((ob0 6), .inl (cA 2, (Md_marked s0).1, .inl (Md_marked s0).2)), ((ob0 7), .inl (cA 0, (Md_leaders s0).1, .inl (Md_leaders s0).2)), ((ob0 8), .inl (cA 0, (Md_trial s0).1, .inl (Md_trial s0).2)), ((ob0 9), .inl (cA 0, (Md_shown s0).1, .inl (Md_shown s0).2)), ((ob0 10), .inl (cA 0, (Md_features s0).1, .inl (Md_features s0).2)), ((ob0 11), .inl (cA 0, (Md_parts s0).1, .inl (Md_parts s0).2)), ((ob0 12), .inl (cA 0, (Md_pushedFeatures s0).1, .inl (Md_pushedFeatures s0).2)), ((ob0 13), .inl (cA 0, (Md_pushedParts s0).1, .inl (Md_pushedParts s0).2)), ((ob0 14), .inl (cA 0, (Md_touched s0).1, .inl (Md_touched s0).2)), ((ob0 15), .inl (cA 0, (Md_reached s0).1, .inl (Md_reached s0).2)), ((ob0 16), .inl (cA 0, (Md_blocks s0).1, .inl (Md_blocks s0).2)), ((ob0 17), .inl (cA 0, (Md_newBlocks s0).1, .inl (Md_newBlocks s0).2)), ((ob0 18), .inl (cA 0, (Md_places s0).1, .inl (Md_places s0).2)), ((ad0 0), .inl (cA 0, (Md_written s0).1, .inl (Md_written s0).2)), ((ad0 1), .inl (cA 0, (Md_other s0).1, .inl (Md_other s0).2))]) (lv' := [(0, .ref (ob0 0)), (1, .int p0), (2, .int (o45.1)), (3, .int (o45.2))]) rfl rfl ?_
        refine x_iload_n F d_Md_changes_98 2 rfl rfl ?_
        replace hm := xm_z_some hm
        obtain ⟨hz, hm⟩ := hm
        replace hm := xm_p_some hm
        obtain ⟨eo, c_o, d_o⟩ := hm
        subst eo
        refine x_sub [0, 1, 2, 3, 4, 5, 6, 7, 8, 9, 10, 11, 12, 13, 14, 15, 16, 17, 18, 19, 20] (by decide) ?_ (xe_i E (fun _ => 0) (by omega) (by omega) rfl hz d_Md_changes_99)
        rfl
      · replace hm := xm_f hm c31
        refine x_iconst (v := (0 : Int32)) F d_Md_changes_33 (by decide) ?_
        replace hm := xm_p_some hm
        obtain ⟨eo, c_o, d_o⟩ := hm
        subst eo
        refine x_sub [0, 1, 2, 3, 4, 5, 6, 7, 8, 9, 10, 11, 12, 13, 14, 15, 16, 17, 18, 19, 20] (by decide) ?_ (xe_i E (fun _ => 0) (by omega) (by omega) rfl xz_0 d_Md_changes_34)
        rfl

noncomputable def L_Md_tell_34 (y1 : Int32) (y2 : Int32) (n i : Nat) : Int32 → S_Md → MO (Int32 × S_Md) := Nat.rec (motive := fun _ => Int32 → S_Md → MO (Int32 × S_Md)) (fun _ _ => none) (fun _ ih x3 s0 => (if (Md_end s0) ≤ x3 then (xm_p ((x3, s0))) else (xm_b (m_Md_changes n s0 x3) (fun o52 => (if o52 = 0 then (ih (x3 + 1) s0) else (xm_wr (Md_touched s0) (Md_touches s0) x3 (fun a58 => (ih (x3 + 1) ((Md_kinds s0), (Md_values s0), (Md_firsts s0), (Md_manies s0), (Md_said s0), (Md_marked s0), (Md_leaders s0), (Md_trial s0), (Md_shown s0), (Md_end s0), (Md_nodes s0), (Md_features s0), (Md_parts s0), (Md_fields s0), (Md_pushedFeatures s0), (Md_pushedParts s0), (Md_pushed s0), a58, ((Md_touches s0) + (1 : Int32)), (Md_reached s0), (Md_blocks s0), (Md_newBlocks s0), (Md_places s0), (Md_written s0), (Md_other s0), (Md_length s0)))))))))) i
theorem L_Md_tell_34_s (y1 : Int32) (y2 : Int32) (n i : Nat) (x3 : Int32) (s0 : S_Md) : L_Md_tell_34 y1 y2 n (i + 1) x3 s0 = (if (Md_end s0) ≤ x3 then (xm_p ((x3, s0))) else (xm_b (m_Md_changes n s0 x3) (fun o52 => (if o52 = 0 then (L_Md_tell_34 y1 y2 n i (x3 + 1) s0) else (xm_wr (Md_touched s0) (Md_touches s0) x3 (fun a58 => (L_Md_tell_34 y1 y2 n i (x3 + 1) ((Md_kinds s0), (Md_values s0), (Md_firsts s0), (Md_manies s0), (Md_said s0), (Md_marked s0), (Md_leaders s0), (Md_trial s0), (Md_shown s0), (Md_end s0), (Md_nodes s0), (Md_features s0), (Md_parts s0), (Md_fields s0), (Md_pushedFeatures s0), (Md_pushedParts s0), (Md_pushed s0), a58, ((Md_touches s0) + (1 : Int32)), (Md_reached s0), (Md_blocks s0), (Md_newBlocks s0), (Md_places s0), (Md_written s0), (Md_other s0), (Md_length s0))))))))) := rfl
noncomputable def m_Md_tell (n : Nat) (s0 : S_Md) (p0 : Int32) (p1 : Int32) : MO (Int32 × S_Md) := (xm_b (m_Md_has n s0 p0) (fun o33 => (if o33 = 0 then (xm_p ((0 : Int32), s0)) else (xm_b (m_Md_has n s0 p1) (fun o39 => (if o39 = 0 then (xm_p ((0 : Int32), s0)) else (xm_b (m_Md_suppose n s0 p0 p1) (fun o45 => (if (o45.1) = 0 then (xm_p ((0 : Int32), (o45.2))) else (xm_b (L_Md_tell_34 p0 p1 n n (0 : Int32) ((Md_kinds (o45.2)), (Md_values (o45.2)), (Md_firsts (o45.2)), (Md_manies (o45.2)), (Md_said (o45.2)), (Md_marked (o45.2)), (Md_leaders (o45.2)), (Md_trial (o45.2)), (Md_shown (o45.2)), (Md_end (o45.2)), (Md_nodes (o45.2)), (Md_features (o45.2)), (Md_parts (o45.2)), (Md_fields (o45.2)), (Md_pushedFeatures (o45.2)), (Md_pushedParts (o45.2)), (Md_pushed (o45.2)), (Md_touched (o45.2)), (0 : Int32), (Md_reached (o45.2)), (Md_blocks (o45.2)), (Md_newBlocks (o45.2)), (Md_places (o45.2)), (Md_written (o45.2)), (Md_other (o45.2)), (Md_length (o45.2)))) (fun o59 => (xm_cp (Md_trial (o59.2)) (Md_leaders (o59.2)) (0 : Int32) (0 : Int32) (Md_end (o59.2)) (fun a64 => (xm_b (m_Md_unmark n ((Md_kinds (o59.2)), (Md_values (o59.2)), (Md_firsts (o59.2)), (Md_manies (o59.2)), (Md_said (o59.2)), (Md_marked (o59.2)), a64, (Md_trial (o59.2)), (Md_shown (o59.2)), (Md_end (o59.2)), (Md_nodes (o59.2)), (Md_features (o59.2)), (Md_parts (o59.2)), (Md_fields (o59.2)), (Md_pushedFeatures (o59.2)), (Md_pushedParts (o59.2)), (Md_pushed (o59.2)), (Md_touched (o59.2)), (Md_touches (o59.2)), (Md_reached (o59.2)), (Md_blocks (o59.2)), (Md_newBlocks (o59.2)), (Md_places (o59.2)), (Md_written (o59.2)), (Md_other (o59.2)), (Md_length (o59.2)))) (fun o65 => (xm_p ((1 : Int32), o65)))))))))))))))))
set_option maxHeartbeats 4000000 in
set_option maxRecDepth 100000 in
theorem wl_Md_tell_34 {X : XT} {l : Launch} {D : va_G} {cA : Nat → ClassId} {mc ms : Nat} (F : XF X l D cA b_Md_tell 4 (some FieldType.boolean) R_Md 3 86 mc ms) (n : Nat) (ob0 : Nat → Nat) (y1 : Int32) (y2 : Int32)   : ∀ (i : Nat) (x3 : Int32) (s0 : S_Md) (ad0 : Nat → Nat) (nc ns : Nat) (out : Int32 × S_Md) (k : KC), L_Md_tell_34 y1 y2 n i x3 s0 = some (out, k) → nc + k.1 ≤ mc → ns + k.2 ≤ ms → (∀ ad : Nat → Nat, XW X 4 ((w_Md cA ob0 ad  (out.2))) (nc + k.1) (ns + k.2) 76 [(0, .ref (ob0 0)), (1, .int y1), (2, .int y2), (3, .int (out.1))] []) → XW X 4 ((w_Md cA ob0 ad0  s0)) nc ns 34 [(0, .ref (ob0 0)), (1, .int y1), (2, .int y2), (3, .int x3)] [] := by
  intro i
  induction i with
  | zero =>
    intro x3 s0 ad0 nc ns out k hm
    replace hm : (none : MO (Int32 × S_Md)) = some (out, k) := hm
    cases hm
  | succ i ih =>
    intro x3 s0 ad0 nc ns out k hm hc hs KX
    rw [L_Md_tell_34_s] at hm
    refine x_ws (ws' := [((ob0 0), .inr (8, [.ref (ob0 1), .ref (ob0 2), .ref (ob0 3), .ref (ob0 4), .ref (ob0 5), .ref (ob0 6), .ref (ob0 7), .ref (ob0 8), .ref (ob0 9), .int (Md_end s0), .int (Md_nodes s0), .ref (ob0 10), .ref (ob0 11), .int (Md_fields s0), .ref (ob0 12), .ref (ob0 13), .int (Md_pushed s0), .ref (ob0 14), .int (Md_touches s0), .ref (ob0 15), .ref (ob0 16), .ref (ob0 17), .ref (ob0 18), .ref (ad0 0), .ref (ad0 1), .int (Md_length s0)])), ((ob0 1), .inl (cA 1, (Md_kinds s0).1, .inl (Md_kinds s0).2)), ((ob0 2), .inl (cA 0, (Md_values s0).1, .inl (Md_values s0).2)), ((ob0 3), .inl (cA 0, (Md_firsts s0).1, .inl (Md_firsts s0).2)), ((ob0 4), .inl (cA 0, (Md_manies s0).1, .inl (Md_manies s0).2)), ((ob0 5), .inl (cA 2, (Md_said s0).1, .inl (Md_said s0).2)), ((ob0 6), .inl (cA 2, (Md_marked s0).1, .inl (Md_marked s0).2)), ((ob0 7), .inl (cA 0, (Md_leaders s0).1, .inl (Md_leaders s0).2)), ((ob0 8), .inl (cA 0, (Md_trial s0).1, .inl (Md_trial s0).2)), ((ob0 9), .inl (cA 0, (Md_shown s0).1, .inl (Md_shown s0).2)), ((ob0 10), .inl (cA 0, (Md_features s0).1, .inl (Md_features s0).2)), ((ob0 11), .inl (cA 0, (Md_parts s0).1, .inl (Md_parts s0).2)), ((ob0 12), .inl (cA 0, (Md_pushedFeatures s0).1, .inl (Md_pushedFeatures s0).2)), ((ob0 13), .inl (cA 0, (Md_pushedParts s0).1, .inl (Md_pushedParts s0).2)), ((ob0 14), .inl (cA 0, (Md_touched s0).1, .inl (Md_touched s0).2)), ((ob0 15), .inl (cA 0, (Md_reached s0).1, .inl (Md_reached s0).2)), ((ob0 16), .inl (cA 0, (Md_blocks s0).1, .inl (Md_blocks s0).2)), ((ob0 17), .inl (cA 0, (Md_newBlocks s0).1, .inl (Md_newBlocks s0).2)), ((ob0 18), .inl (cA 0, (Md_places s0).1, .inl (Md_places s0).2)), ((ad0 0), .inl (cA 0, (Md_written s0).1, .inl (Md_written s0).2)), ((ad0 1), .inl (cA 0, (Md_other s0).1, .inl (Md_other s0).2))]) rfl ?_
    refine x_iload_n F d_Md_tell_34 3 rfl rfl ?_
    refine x_aload_n F d_Md_tell_35 0 rfl rfl ?_
    refine x_get F ck_Md hin_Md 0 9 rfl (by decide) kw_643 rfl rfl d_Md_tell_36 ?_
    refine x_icmp_ge F 76 d_Md_tell_39 (by decide) (fun c51 => ?_) (fun c51 => ?_)
    · replace hm := xm_t hm c51
      replace hm := xm_p_some hm
      obtain ⟨eo, c_o, d_o⟩ := hm
      subst eo
      refine x_sub [0, 1, 2, 3, 4, 5, 6, 7, 8, 9, 10, 11, 12, 13, 14, 15, 16, 17, 18, 19, 20] (by decide) ?_ (x_lv [0, 1, 2, 3] ?_ (x_cs (by omega) (by omega) (KX ad0)))
      · rfl
      · rfl
    · replace hm := xm_f hm c51
      refine x_aload_n F d_Md_tell_42 0 rfl rfl ?_
      refine x_iload_n F d_Md_tell_43 3 rfl rfl ?_
      replace hm := xm_b_some hm
      obtain ⟨o52, k53, k54, h55, hm, c_o52, d_o52⟩ := hm
      refine x_callV (n := 1) (C := R_Md) (wr := []) F (c_Md_changes l D cA n ob0 ad0 s0 x3 o52 k53 h55) kw_782 kw_779 kw_781 kw_26 kw_47 ⟨rfl, by decide, by decide, by decide +kernel⟩ rfl (by decide) (by decide) (ci := 8) rfl rfl 0 rfl [0, 1, 2, 3, 4, 5, 6, 7, 8, 9, 10, 11, 12, 13, 14, 15, 16, 17, 18, 19, 20] [] rfl rfl (by decide) (by decide) (by decide) rfl (Nat.le_of_ble_eq_true rfl) (by omega) (by omega) d_Md_tell_44 (fun ad56 => ?_)
      refine x_nf (ws' := [((ob0 0), .inr (8, [.ref (ob0 1), .ref (ob0 2), .ref (ob0 3), .ref (ob0 4), .ref (ob0 5), .ref (ob0 6), .ref (ob0 7), .ref (ob0 8), .ref (ob0 9), .int (Md_end s0), .int (Md_nodes s0), .ref (ob0 10), .ref (ob0 11), .int (Md_fields s0), .ref (ob0 12), .ref (ob0 13), .int (Md_pushed s0), .ref (ob0 14), .int (Md_touches s0), .ref (ob0 15), .ref (ob0 16), .ref (ob0 17), .ref (ob0 18), .ref (ad0 0), .ref (ad0 1), .int (Md_length s0)])), ((ob0 1), .inl (cA 1, (Md_kinds s0).1, .inl (Md_kinds s0).2)), ((ob0 2), .inl (cA 0, (Md_values s0).1, .inl (Md_values s0).2)), ((ob0 3), .inl (cA 0, (Md_firsts s0).1, .inl (Md_firsts s0).2)), ((ob0 4), .inl (cA 0, (Md_manies s0).1, .inl (Md_manies s0).2)), ((ob0 5), .inl (cA 2, (Md_said s0).1, .inl (Md_said s0).2)), ((ob0 6), .inl (cA 2, (Md_marked s0).1, .inl (Md_marked s0).2)), ((ob0 7), .inl (cA 0, (Md_leaders s0).1, .inl (Md_leaders s0).2)), ((ob0 8), .inl (cA 0, (Md_trial s0).1, .inl (Md_trial s0).2)), ((ob0 9), .inl (cA 0, (Md_shown s0).1, .inl (Md_shown s0).2)), ((ob0 10), .inl (cA 0, (Md_features s0).1, .inl (Md_features s0).2)), ((ob0 11), .inl (cA 0, (Md_parts s0).1, .inl (Md_parts s0).2)), ((ob0 12), .inl (cA 0, (Md_pushedFeatures s0).1, .inl (Md_pushedFeatures s0).2)), ((ob0 13), .inl (cA 0, (Md_pushedParts s0).1, .inl (Md_pushedParts s0).2)), ((ob0 14), .inl (cA 0, (Md_touched s0).1, .inl (Md_touched s0).2)), ((ob0 15), .inl (cA 0, (Md_reached s0).1, .inl (Md_reached s0).2)), ((ob0 16), .inl (cA 0, (Md_blocks s0).1, .inl (Md_blocks s0).2)), ((ob0 17), .inl (cA 0, (Md_newBlocks s0).1, .inl (Md_newBlocks s0).2)), ((ob0 18), .inl (cA 0, (Md_places s0).1, .inl (Md_places s0).2)), ((ad0 0), .inl (cA 0, (Md_written s0).1, .inl (Md_written s0).2)), ((ad0 1), .inl (cA 0, (Md_other s0).1, .inl (Md_other s0).2))]) (st' := [.int o52]) rfl rfl ?_
      refine x_if_eq F 70 d_Md_tell_47 (by decide) (fun c57 => ?_) (fun c57 => ?_)
      · replace hm := xm_t hm c57
        refine x_iinc (v := (x3 + 1)) (lv' := [(3, .int (x3 + 1)), (0, .ref (ob0 0)), (1, .int y1), (2, .int y2)]) F d_Md_tell_70 3 rfl rfl (by decide) rfl ?_
        refine x_goto F 34 d_Md_tell_73 (by decide) ?_
        refine x_sub [0, 1, 2, 3, 4, 5, 6, 7, 8, 9, 10, 11, 12, 13, 14, 15, 16, 17, 18, 19, 20] (by decide) ?_ (x_lv [1, 2, 3, 0] ?_ (ih (x3 + 1) s0 ad0 _ _ out k54 hm (by omega) (by omega) (fun ad => x_cs (by omega) (by omega) (KX ad))))
        · rfl
        · rfl
      · replace hm := xm_f hm c57
        refine x_aload_n F d_Md_tell_50 0 rfl rfl ?_
        refine x_get F ck_Md hin_Md 0 17 rfl (by decide) kw_651 rfl rfl d_Md_tell_51 ?_
        refine x_aload_n F d_Md_tell_54 0 rfl rfl ?_
        refine x_get F ck_Md hin_Md 0 18 rfl (by decide) kw_652 rfl rfl d_Md_tell_55 ?_
        refine x_iload_n F d_Md_tell_58 3 rfl rfl ?_
        replace hm := xm_wr_some hm
        obtain ⟨a58, e_a58, b_a58, hm⟩ := hm
        refine x_iast (x := (Md_touched s0)) (x' := a58) (ws' := [((ob0 0), .inr (8, [.ref (ob0 1), .ref (ob0 2), .ref (ob0 3), .ref (ob0 4), .ref (ob0 5), .ref (ob0 6), .ref (ob0 7), .ref (ob0 8), .ref (ob0 9), .int (Md_end s0), .int (Md_nodes s0), .ref (ob0 10), .ref (ob0 11), .int (Md_fields s0), .ref (ob0 12), .ref (ob0 13), .int (Md_pushed s0), .ref (ob0 14), .int (Md_touches s0), .ref (ob0 15), .ref (ob0 16), .ref (ob0 17), .ref (ob0 18), .ref (ad0 0), .ref (ad0 1), .int (Md_length s0)])), ((ob0 1), .inl (cA 1, (Md_kinds s0).1, .inl (Md_kinds s0).2)), ((ob0 2), .inl (cA 0, (Md_values s0).1, .inl (Md_values s0).2)), ((ob0 3), .inl (cA 0, (Md_firsts s0).1, .inl (Md_firsts s0).2)), ((ob0 4), .inl (cA 0, (Md_manies s0).1, .inl (Md_manies s0).2)), ((ob0 5), .inl (cA 2, (Md_said s0).1, .inl (Md_said s0).2)), ((ob0 6), .inl (cA 2, (Md_marked s0).1, .inl (Md_marked s0).2)), ((ob0 7), .inl (cA 0, (Md_leaders s0).1, .inl (Md_leaders s0).2)), ((ob0 8), .inl (cA 0, (Md_trial s0).1, .inl (Md_trial s0).2)), ((ob0 9), .inl (cA 0, (Md_shown s0).1, .inl (Md_shown s0).2)), ((ob0 10), .inl (cA 0, (Md_features s0).1, .inl (Md_features s0).2)), ((ob0 11), .inl (cA 0, (Md_parts s0).1, .inl (Md_parts s0).2)), ((ob0 12), .inl (cA 0, (Md_pushedFeatures s0).1, .inl (Md_pushedFeatures s0).2)), ((ob0 13), .inl (cA 0, (Md_pushedParts s0).1, .inl (Md_pushedParts s0).2)), ((ob0 14), .inl (cA 0, a58.1, .inl a58.2)), ((ob0 15), .inl (cA 0, (Md_reached s0).1, .inl (Md_reached s0).2)), ((ob0 16), .inl (cA 0, (Md_blocks s0).1, .inl (Md_blocks s0).2)), ((ob0 17), .inl (cA 0, (Md_newBlocks s0).1, .inl (Md_newBlocks s0).2)), ((ob0 18), .inl (cA 0, (Md_places s0).1, .inl (Md_places s0).2)), ((ad0 0), .inl (cA 0, (Md_written s0).1, .inl (Md_written s0).2)), ((ad0 1), .inl (cA 0, (Md_other s0).1, .inl (Md_other s0).2))]) F 14 rfl e_a58 b_a58 rfl d_Md_tell_59 ?_
        refine x_aload_n F d_Md_tell_60 0 rfl rfl ?_
        refine x_dup F d_Md_tell_61 rfl ?_
        refine x_get F ck_Md hin_Md 0 18 rfl (by decide) kw_652 rfl rfl d_Md_tell_62 ?_
        refine x_iconst (v := (1 : Int32)) F d_Md_tell_65 (by decide) ?_
        refine x_iadd F d_Md_tell_66 ?_
        refine x_put (ws' := [((ob0 0), .inr (8, [.ref (ob0 1), .ref (ob0 2), .ref (ob0 3), .ref (ob0 4), .ref (ob0 5), .ref (ob0 6), .ref (ob0 7), .ref (ob0 8), .ref (ob0 9), .int (Md_end s0), .int (Md_nodes s0), .ref (ob0 10), .ref (ob0 11), .int (Md_fields s0), .ref (ob0 12), .ref (ob0 13), .int (Md_pushed s0), .ref (ob0 14), .int ((Md_touches s0) + (1 : Int32)), .ref (ob0 15), .ref (ob0 16), .ref (ob0 17), .ref (ob0 18), .ref (ad0 0), .ref (ad0 1), .int (Md_length s0)])), ((ob0 1), .inl (cA 1, (Md_kinds s0).1, .inl (Md_kinds s0).2)), ((ob0 2), .inl (cA 0, (Md_values s0).1, .inl (Md_values s0).2)), ((ob0 3), .inl (cA 0, (Md_firsts s0).1, .inl (Md_firsts s0).2)), ((ob0 4), .inl (cA 0, (Md_manies s0).1, .inl (Md_manies s0).2)), ((ob0 5), .inl (cA 2, (Md_said s0).1, .inl (Md_said s0).2)), ((ob0 6), .inl (cA 2, (Md_marked s0).1, .inl (Md_marked s0).2)), ((ob0 7), .inl (cA 0, (Md_leaders s0).1, .inl (Md_leaders s0).2)), ((ob0 8), .inl (cA 0, (Md_trial s0).1, .inl (Md_trial s0).2)), ((ob0 9), .inl (cA 0, (Md_shown s0).1, .inl (Md_shown s0).2)), ((ob0 10), .inl (cA 0, (Md_features s0).1, .inl (Md_features s0).2)), ((ob0 11), .inl (cA 0, (Md_parts s0).1, .inl (Md_parts s0).2)), ((ob0 12), .inl (cA 0, (Md_pushedFeatures s0).1, .inl (Md_pushedFeatures s0).2)), ((ob0 13), .inl (cA 0, (Md_pushedParts s0).1, .inl (Md_pushedParts s0).2)), ((ob0 14), .inl (cA 0, a58.1, .inl a58.2)), ((ob0 15), .inl (cA 0, (Md_reached s0).1, .inl (Md_reached s0).2)), ((ob0 16), .inl (cA 0, (Md_blocks s0).1, .inl (Md_blocks s0).2)), ((ob0 17), .inl (cA 0, (Md_newBlocks s0).1, .inl (Md_newBlocks s0).2)), ((ob0 18), .inl (cA 0, (Md_places s0).1, .inl (Md_places s0).2)), ((ad0 0), .inl (cA 0, (Md_written s0).1, .inl (Md_written s0).2)), ((ad0 1), .inl (cA 0, (Md_other s0).1, .inl (Md_other s0).2))]) F ck_Md hin_Md 0 18 rfl (by decide) kw_652 rfl rfl rfl rfl (Nat.le_of_ble_eq_true rfl) rfl d_Md_tell_67 ?_
        refine x_iinc (v := (x3 + 1)) (lv' := [(3, .int (x3 + 1)), (0, .ref (ob0 0)), (1, .int y1), (2, .int y2)]) F d_Md_tell_70 3 rfl rfl (by decide) rfl ?_
        refine x_goto F 34 d_Md_tell_73 (by decide) ?_
        refine x_sub [0, 1, 2, 3, 4, 5, 6, 7, 8, 9, 10, 11, 12, 13, 14, 15, 16, 17, 18, 19, 20] (by decide) ?_ (x_lv [1, 2, 3, 0] ?_ (ih (x3 + 1) ((Md_kinds s0), (Md_values s0), (Md_firsts s0), (Md_manies s0), (Md_said s0), (Md_marked s0), (Md_leaders s0), (Md_trial s0), (Md_shown s0), (Md_end s0), (Md_nodes s0), (Md_features s0), (Md_parts s0), (Md_fields s0), (Md_pushedFeatures s0), (Md_pushedParts s0), (Md_pushed s0), a58, ((Md_touches s0) + (1 : Int32)), (Md_reached s0), (Md_blocks s0), (Md_newBlocks s0), (Md_places s0), (Md_written s0), (Md_other s0), (Md_length s0)) ad0 _ _ out k54 hm (by omega) (by omega) (fun ad => x_cs (by omega) (by omega) (KX ad))))
        · rfl
        · rfl
set_option maxHeartbeats 4000000 in
set_option maxRecDepth 100000 in
theorem c_Md_tell (l : Launch) (D : va_G) (cA : Nat → ClassId) (n : Nat) (ob0 ad0 : Nat → Nat) (s0 : S_Md) (p0 : Int32) (p1 : Int32) (out : Int32 × S_Md) (k : KC) (hm : m_Md_tell n s0 p0 p1 = some (out, k)) : XM l D cA y_Md_tell b_Md_tell 4 (some FieldType.boolean) 3 86 [.ref (ob0 0), .int p0, .int p1] ((w_Md cA ob0 ad0  s0)) k (fun _ => some (.int (out.1))) (fun ad => (w_Md cA ob0 ad  (out.2))) := by
  refine x_met (cc := b_Md_tell) (nL := 4) (ret := (some FieldType.boolean)) R_Md (by decide) (Nat.le_of_ble_eq_true rfl) rfl (fun X F I E => ?_)
  unfold m_Md_tell at hm
  refine x_nf2 (ws' := [((ob0 0), .inr (8, [.ref (ob0 1), .ref (ob0 2), .ref (ob0 3), .ref (ob0 4), .ref (ob0 5), .ref (ob0 6), .ref (ob0 7), .ref (ob0 8), .ref (ob0 9), .int (Md_end s0), .int (Md_nodes s0), .ref (ob0 10), .ref (ob0 11), .int (Md_fields s0), .ref (ob0 12), .ref (ob0 13), .int (Md_pushed s0), .ref (ob0 14), .int (Md_touches s0), .ref (ob0 15), .ref (ob0 16), .ref (ob0 17), .ref (ob0 18), .ref (ad0 0), .ref (ad0 1), .int (Md_length s0)])), ((ob0 1), .inl (cA 1, (Md_kinds s0).1, .inl (Md_kinds s0).2)), ((ob0 2), .inl (cA 0, (Md_values s0).1, .inl (Md_values s0).2)), ((ob0 3), .inl (cA 0, (Md_firsts s0).1, .inl (Md_firsts s0).2)), ((ob0 4), .inl (cA 0, (Md_manies s0).1, .inl (Md_manies s0).2)), ((ob0 5), .inl (cA 2, (Md_said s0).1, .inl (Md_said s0).2)), ((ob0 6), .inl (cA 2, (Md_marked s0).1, .inl (Md_marked s0).2)), ((ob0 7), .inl (cA 0, (Md_leaders s0).1, .inl (Md_leaders s0).2)), ((ob0 8), .inl (cA 0, (Md_trial s0).1, .inl (Md_trial s0).2)), ((ob0 9), .inl (cA 0, (Md_shown s0).1, .inl (Md_shown s0).2)), ((ob0 10), .inl (cA 0, (Md_features s0).1, .inl (Md_features s0).2)), ((ob0 11), .inl (cA 0, (Md_parts s0).1, .inl (Md_parts s0).2)), ((ob0 12), .inl (cA 0, (Md_pushedFeatures s0).1, .inl (Md_pushedFeatures s0).2)), ((ob0 13), .inl (cA 0, (Md_pushedParts s0).1, .inl (Md_pushedParts s0).2)), ((ob0 14), .inl (cA 0, (Md_touched s0).1, .inl (Md_touched s0).2)), ((ob0 15), .inl (cA 0, (Md_reached s0).1, .inl (Md_reached s0).2)), ((ob0 16), .inl (cA 0, (Md_blocks s0).1, .inl (Md_blocks s0).2)), ((ob0 17), .inl (cA 0, (Md_newBlocks s0).1, .inl (Md_newBlocks s0).2)), ((ob0 18), .inl (cA 0, (Md_places s0).1, .inl (Md_places s0).2)), ((ad0 0), .inl (cA 0, (Md_written s0).1, .inl (Md_written s0).2)), ((ad0 1), .inl (cA 0, (Md_other s0).1, .inl (Md_other s0).2))]) (lv' := [(0, .ref (ob0 0)), (1, .int p0), (2, .int p1)]) rfl rfl ?_
  refine x_aload_n F d_Md_tell_0 0 rfl rfl ?_
  refine x_iload_n F d_Md_tell_1 1 rfl rfl ?_
  replace hm := xm_b_some hm
  obtain ⟨o33, k34, k35, h36, hm, c_o33, d_o33⟩ := hm
  refine x_callV (n := 1) (C := R_Md) (wr := []) F (c_Md_has l D cA n ob0 ad0 s0 p0 o33 k34 h36) kw_742 kw_739 kw_741 kw_20 kw_47 ⟨rfl, by decide, by decide, by decide +kernel⟩ rfl (by decide) (by decide) (ci := 8) rfl rfl 0 rfl [0, 1, 2, 3, 4, 5, 6, 7, 8, 9, 10, 11, 12, 13, 14, 15, 16, 17, 18, 19, 20] [] rfl rfl (by decide) (by decide) (by decide) rfl (Nat.le_of_ble_eq_true rfl) (by omega) (by omega) d_Md_tell_2 (fun ad37 => ?_)
  refine x_nf (ws' := [((ob0 0), .inr (8, [.ref (ob0 1), .ref (ob0 2), .ref (ob0 3), .ref (ob0 4), .ref (ob0 5), .ref (ob0 6), .ref (ob0 7), .ref (ob0 8), .ref (ob0 9), .int (Md_end s0), .int (Md_nodes s0), .ref (ob0 10), .ref (ob0 11), .int (Md_fields s0), .ref (ob0 12), .ref (ob0 13), .int (Md_pushed s0), .ref (ob0 14), .int (Md_touches s0), .ref (ob0 15), .ref (ob0 16), .ref (ob0 17), .ref (ob0 18), .ref (ad0 0), .ref (ad0 1), .int (Md_length s0)])), ((ob0 1), .inl (cA 1, (Md_kinds s0).1, .inl (Md_kinds s0).2)), ((ob0 2), .inl (cA 0, (Md_values s0).1, .inl (Md_values s0).2)), ((ob0 3), .inl (cA 0, (Md_firsts s0).1, .inl (Md_firsts s0).2)), ((ob0 4), .inl (cA 0, (Md_manies s0).1, .inl (Md_manies s0).2)), ((ob0 5), .inl (cA 2, (Md_said s0).1, .inl (Md_said s0).2)), ((ob0 6), .inl (cA 2, (Md_marked s0).1, .inl (Md_marked s0).2)), ((ob0 7), .inl (cA 0, (Md_leaders s0).1, .inl (Md_leaders s0).2)), ((ob0 8), .inl (cA 0, (Md_trial s0).1, .inl (Md_trial s0).2)), ((ob0 9), .inl (cA 0, (Md_shown s0).1, .inl (Md_shown s0).2)), ((ob0 10), .inl (cA 0, (Md_features s0).1, .inl (Md_features s0).2)), ((ob0 11), .inl (cA 0, (Md_parts s0).1, .inl (Md_parts s0).2)), ((ob0 12), .inl (cA 0, (Md_pushedFeatures s0).1, .inl (Md_pushedFeatures s0).2)), ((ob0 13), .inl (cA 0, (Md_pushedParts s0).1, .inl (Md_pushedParts s0).2)), ((ob0 14), .inl (cA 0, (Md_touched s0).1, .inl (Md_touched s0).2)), ((ob0 15), .inl (cA 0, (Md_reached s0).1, .inl (Md_reached s0).2)), ((ob0 16), .inl (cA 0, (Md_blocks s0).1, .inl (Md_blocks s0).2)), ((ob0 17), .inl (cA 0, (Md_newBlocks s0).1, .inl (Md_newBlocks s0).2)), ((ob0 18), .inl (cA 0, (Md_places s0).1, .inl (Md_places s0).2)), ((ad0 0), .inl (cA 0, (Md_written s0).1, .inl (Md_written s0).2)), ((ad0 1), .inl (cA 0, (Md_other s0).1, .inl (Md_other s0).2))]) (st' := [.int o33]) rfl rfl ?_
  refine x_if_eq F 25 d_Md_tell_5 (by decide) (fun c38 => ?_) (fun c38 => ?_)
  · replace hm := xm_t hm c38
    refine x_iconst (v := (0 : Int32)) F d_Md_tell_25 (by decide) ?_
    replace hm := xm_p_some hm
    obtain ⟨eo, c_o, d_o⟩ := hm
    subst eo
    refine x_sub [0, 1, 2, 3, 4, 5, 6, 7, 8, 9, 10, 11, 12, 13, 14, 15, 16, 17, 18, 19, 20] (by decide) ?_ (xe_i E ad0 (by omega) (by omega) rfl xz_0 d_Md_tell_26)
    rfl
  · replace hm := xm_f hm c38
    refine x_aload_n F d_Md_tell_8 0 rfl rfl ?_
    refine x_iload_n F d_Md_tell_9 2 rfl rfl ?_
    replace hm := xm_b_some hm
    obtain ⟨o39, k40, k41, h42, hm, c_o39, d_o39⟩ := hm
    refine x_callV (n := 1) (C := R_Md) (wr := []) F (c_Md_has l D cA n ob0 ad0 s0 p1 o39 k40 h42) kw_742 kw_739 kw_741 kw_20 kw_47 ⟨rfl, by decide, by decide, by decide +kernel⟩ rfl (by decide) (by decide) (ci := 8) rfl rfl 0 rfl [0, 1, 2, 3, 4, 5, 6, 7, 8, 9, 10, 11, 12, 13, 14, 15, 16, 17, 18, 19, 20] [] rfl rfl (by decide) (by decide) (by decide) rfl (Nat.le_of_ble_eq_true rfl) (by omega) (by omega) d_Md_tell_10 (fun ad43 => ?_)
    refine x_nf (ws' := [((ob0 0), .inr (8, [.ref (ob0 1), .ref (ob0 2), .ref (ob0 3), .ref (ob0 4), .ref (ob0 5), .ref (ob0 6), .ref (ob0 7), .ref (ob0 8), .ref (ob0 9), .int (Md_end s0), .int (Md_nodes s0), .ref (ob0 10), .ref (ob0 11), .int (Md_fields s0), .ref (ob0 12), .ref (ob0 13), .int (Md_pushed s0), .ref (ob0 14), .int (Md_touches s0), .ref (ob0 15), .ref (ob0 16), .ref (ob0 17), .ref (ob0 18), .ref (ad0 0), .ref (ad0 1), .int (Md_length s0)])), ((ob0 1), .inl (cA 1, (Md_kinds s0).1, .inl (Md_kinds s0).2)), ((ob0 2), .inl (cA 0, (Md_values s0).1, .inl (Md_values s0).2)), ((ob0 3), .inl (cA 0, (Md_firsts s0).1, .inl (Md_firsts s0).2)), ((ob0 4), .inl (cA 0, (Md_manies s0).1, .inl (Md_manies s0).2)), ((ob0 5), .inl (cA 2, (Md_said s0).1, .inl (Md_said s0).2)), ((ob0 6), .inl (cA 2, (Md_marked s0).1, .inl (Md_marked s0).2)), ((ob0 7), .inl (cA 0, (Md_leaders s0).1, .inl (Md_leaders s0).2)), ((ob0 8), .inl (cA 0, (Md_trial s0).1, .inl (Md_trial s0).2)), ((ob0 9), .inl (cA 0, (Md_shown s0).1, .inl (Md_shown s0).2)), ((ob0 10), .inl (cA 0, (Md_features s0).1, .inl (Md_features s0).2)), ((ob0 11), .inl (cA 0, (Md_parts s0).1, .inl (Md_parts s0).2)), ((ob0 12), .inl (cA 0, (Md_pushedFeatures s0).1, .inl (Md_pushedFeatures s0).2)), ((ob0 13), .inl (cA 0, (Md_pushedParts s0).1, .inl (Md_pushedParts s0).2)), ((ob0 14), .inl (cA 0, (Md_touched s0).1, .inl (Md_touched s0).2)), ((ob0 15), .inl (cA 0, (Md_reached s0).1, .inl (Md_reached s0).2)), ((ob0 16), .inl (cA 0, (Md_blocks s0).1, .inl (Md_blocks s0).2)), ((ob0 17), .inl (cA 0, (Md_newBlocks s0).1, .inl (Md_newBlocks s0).2)), ((ob0 18), .inl (cA 0, (Md_places s0).1, .inl (Md_places s0).2)), ((ad0 0), .inl (cA 0, (Md_written s0).1, .inl (Md_written s0).2)), ((ad0 1), .inl (cA 0, (Md_other s0).1, .inl (Md_other s0).2))]) (st' := [.int o39]) rfl rfl ?_
    refine x_if_eq F 25 d_Md_tell_13 (by decide) (fun c44 => ?_) (fun c44 => ?_)
    · replace hm := xm_t hm c44
      refine x_iconst (v := (0 : Int32)) F d_Md_tell_25 (by decide) ?_
      replace hm := xm_p_some hm
      obtain ⟨eo, c_o, d_o⟩ := hm
      subst eo
      refine x_sub [0, 1, 2, 3, 4, 5, 6, 7, 8, 9, 10, 11, 12, 13, 14, 15, 16, 17, 18, 19, 20] (by decide) ?_ (xe_i E ad0 (by omega) (by omega) rfl xz_0 d_Md_tell_26)
      rfl
    · replace hm := xm_f hm c44
      refine x_aload_n F d_Md_tell_16 0 rfl rfl ?_
      refine x_iload_n F d_Md_tell_17 1 rfl rfl ?_
      refine x_iload_n F d_Md_tell_18 2 rfl rfl ?_
      replace hm := xm_b_some hm
      obtain ⟨o45, k46, k47, h48, hm, c_o45, d_o45⟩ := hm
      refine x_callV (n := 2) (C := R_Md) (wr := []) F (c_Md_suppose l D cA n ob0 ad0 s0 p0 p1 o45 k46 h48) kw_765 kw_762 kw_764 kw_22 kw_47 ⟨rfl, by decide, by decide, by decide +kernel⟩ rfl (by decide) (by decide) (ci := 8) rfl rfl 0 rfl [0, 1, 2, 3, 4, 5, 6, 7, 8, 9, 10, 11, 12, 13, 14, 15, 16, 17, 18, 19, 20] [] rfl rfl (by decide) (by decide) (by decide) rfl (Nat.le_of_ble_eq_true rfl) (by omega) (by omega) d_Md_tell_19 (fun ad49 => ?_)
      refine x_nf (ws' := [((ob0 0), .inr (8, [.ref (ob0 1), .ref (ob0 2), .ref (ob0 3), .ref (ob0 4), .ref (ob0 5), .ref (ob0 6), .ref (ob0 7), .ref (ob0 8), .ref (ob0 9), .int (Md_end (o45.2)), .int (Md_nodes (o45.2)), .ref (ob0 10), .ref (ob0 11), .int (Md_fields (o45.2)), .ref (ob0 12), .ref (ob0 13), .int (Md_pushed (o45.2)), .ref (ob0 14), .int (Md_touches (o45.2)), .ref (ob0 15), .ref (ob0 16), .ref (ob0 17), .ref (ob0 18), .ref (ad49 0), .ref (ad49 1), .int (Md_length (o45.2))])), ((ob0 1), .inl (cA 1, (Md_kinds (o45.2)).1, .inl (Md_kinds (o45.2)).2)), ((ob0 2), .inl (cA 0, (Md_values (o45.2)).1, .inl (Md_values (o45.2)).2)), ((ob0 3), .inl (cA 0, (Md_firsts (o45.2)).1, .inl (Md_firsts (o45.2)).2)), ((ob0 4), .inl (cA 0, (Md_manies (o45.2)).1, .inl (Md_manies (o45.2)).2)), ((ob0 5), .inl (cA 2, (Md_said (o45.2)).1, .inl (Md_said (o45.2)).2)), ((ob0 6), .inl (cA 2, (Md_marked (o45.2)).1, .inl (Md_marked (o45.2)).2)), ((ob0 7), .inl (cA 0, (Md_leaders (o45.2)).1, .inl (Md_leaders (o45.2)).2)), ((ob0 8), .inl (cA 0, (Md_trial (o45.2)).1, .inl (Md_trial (o45.2)).2)), ((ob0 9), .inl (cA 0, (Md_shown (o45.2)).1, .inl (Md_shown (o45.2)).2)), ((ob0 10), .inl (cA 0, (Md_features (o45.2)).1, .inl (Md_features (o45.2)).2)), ((ob0 11), .inl (cA 0, (Md_parts (o45.2)).1, .inl (Md_parts (o45.2)).2)), ((ob0 12), .inl (cA 0, (Md_pushedFeatures (o45.2)).1, .inl (Md_pushedFeatures (o45.2)).2)), ((ob0 13), .inl (cA 0, (Md_pushedParts (o45.2)).1, .inl (Md_pushedParts (o45.2)).2)), ((ob0 14), .inl (cA 0, (Md_touched (o45.2)).1, .inl (Md_touched (o45.2)).2)), ((ob0 15), .inl (cA 0, (Md_reached (o45.2)).1, .inl (Md_reached (o45.2)).2)), ((ob0 16), .inl (cA 0, (Md_blocks (o45.2)).1, .inl (Md_blocks (o45.2)).2)), ((ob0 17), .inl (cA 0, (Md_newBlocks (o45.2)).1, .inl (Md_newBlocks (o45.2)).2)), ((ob0 18), .inl (cA 0, (Md_places (o45.2)).1, .inl (Md_places (o45.2)).2)), ((ad49 0), .inl (cA 0, (Md_written (o45.2)).1, .inl (Md_written (o45.2)).2)), ((ad49 1), .inl (cA 0, (Md_other (o45.2)).1, .inl (Md_other (o45.2)).2))]) (st' := [.int (o45.1)]) rfl rfl ?_
      refine x_if_ne F 27 d_Md_tell_22 (by decide) (fun c50 => ?_) (fun c50 => ?_)
      · replace hm := xm_f hm c50
        refine x_aload_n F d_Md_tell_27 0 rfl rfl ?_
        refine x_iconst (v := (0 : Int32)) F d_Md_tell_28 (by decide) ?_
        refine x_put (ws' := [((ob0 0), .inr (8, [.ref (ob0 1), .ref (ob0 2), .ref (ob0 3), .ref (ob0 4), .ref (ob0 5), .ref (ob0 6), .ref (ob0 7), .ref (ob0 8), .ref (ob0 9), .int (Md_end (o45.2)), .int (Md_nodes (o45.2)), .ref (ob0 10), .ref (ob0 11), .int (Md_fields (o45.2)), .ref (ob0 12), .ref (ob0 13), .int (Md_pushed (o45.2)), .ref (ob0 14), .int (0 : Int32), .ref (ob0 15), .ref (ob0 16), .ref (ob0 17), .ref (ob0 18), .ref (ad49 0), .ref (ad49 1), .int (Md_length (o45.2))])), ((ob0 1), .inl (cA 1, (Md_kinds (o45.2)).1, .inl (Md_kinds (o45.2)).2)), ((ob0 2), .inl (cA 0, (Md_values (o45.2)).1, .inl (Md_values (o45.2)).2)), ((ob0 3), .inl (cA 0, (Md_firsts (o45.2)).1, .inl (Md_firsts (o45.2)).2)), ((ob0 4), .inl (cA 0, (Md_manies (o45.2)).1, .inl (Md_manies (o45.2)).2)), ((ob0 5), .inl (cA 2, (Md_said (o45.2)).1, .inl (Md_said (o45.2)).2)), ((ob0 6), .inl (cA 2, (Md_marked (o45.2)).1, .inl (Md_marked (o45.2)).2)), ((ob0 7), .inl (cA 0, (Md_leaders (o45.2)).1, .inl (Md_leaders (o45.2)).2)), ((ob0 8), .inl (cA 0, (Md_trial (o45.2)).1, .inl (Md_trial (o45.2)).2)), ((ob0 9), .inl (cA 0, (Md_shown (o45.2)).1, .inl (Md_shown (o45.2)).2)), ((ob0 10), .inl (cA 0, (Md_features (o45.2)).1, .inl (Md_features (o45.2)).2)), ((ob0 11), .inl (cA 0, (Md_parts (o45.2)).1, .inl (Md_parts (o45.2)).2)), ((ob0 12), .inl (cA 0, (Md_pushedFeatures (o45.2)).1, .inl (Md_pushedFeatures (o45.2)).2)), ((ob0 13), .inl (cA 0, (Md_pushedParts (o45.2)).1, .inl (Md_pushedParts (o45.2)).2)), ((ob0 14), .inl (cA 0, (Md_touched (o45.2)).1, .inl (Md_touched (o45.2)).2)), ((ob0 15), .inl (cA 0, (Md_reached (o45.2)).1, .inl (Md_reached (o45.2)).2)), ((ob0 16), .inl (cA 0, (Md_blocks (o45.2)).1, .inl (Md_blocks (o45.2)).2)), ((ob0 17), .inl (cA 0, (Md_newBlocks (o45.2)).1, .inl (Md_newBlocks (o45.2)).2)), ((ob0 18), .inl (cA 0, (Md_places (o45.2)).1, .inl (Md_places (o45.2)).2)), ((ad49 0), .inl (cA 0, (Md_written (o45.2)).1, .inl (Md_written (o45.2)).2)), ((ad49 1), .inl (cA 0, (Md_other (o45.2)).1, .inl (Md_other (o45.2)).2))]) F ck_Md hin_Md 0 18 rfl (by decide) kw_652 rfl rfl rfl rfl (Nat.le_of_ble_eq_true rfl) rfl d_Md_tell_29 ?_
        refine x_iconst (v := (0 : Int32)) F d_Md_tell_32 (by decide) ?_
        refine x_istore_n (lv' := [(3, .int (0 : Int32)), (0, .ref (ob0 0)), (1, .int p0), (2, .int p1)]) F d_Md_tell_33 rfl (by decide) rfl ?_
        replace hm := xm_b_some hm
        obtain ⟨o59, k60, k61, h62, hm, c_o59, d_o59⟩ := hm
        refine x_sub [0, 1, 2, 3, 4, 5, 6, 7, 8, 9, 10, 11, 12, 13, 14, 15, 16, 17, 18, 19, 20] (by decide) ?_ (x_lv [1, 2, 3, 0] ?_ (wl_Md_tell_34 F n ob0 p0 p1  n (0 : Int32) ((Md_kinds (o45.2)), (Md_values (o45.2)), (Md_firsts (o45.2)), (Md_manies (o45.2)), (Md_said (o45.2)), (Md_marked (o45.2)), (Md_leaders (o45.2)), (Md_trial (o45.2)), (Md_shown (o45.2)), (Md_end (o45.2)), (Md_nodes (o45.2)), (Md_features (o45.2)), (Md_parts (o45.2)), (Md_fields (o45.2)), (Md_pushedFeatures (o45.2)), (Md_pushedParts (o45.2)), (Md_pushed (o45.2)), (Md_touched (o45.2)), (0 : Int32), (Md_reached (o45.2)), (Md_blocks (o45.2)), (Md_newBlocks (o45.2)), (Md_places (o45.2)), (Md_written (o45.2)), (Md_other (o45.2)), (Md_length (o45.2))) ad49 _ _ o59 k60 h62 (by omega) (by omega) (fun ad63 => ?_)))
        · rfl
        · rfl
        refine x_nf2 (ws' := [((ob0 0), .inr (8, [.ref (ob0 1), .ref (ob0 2), .ref (ob0 3), .ref (ob0 4), .ref (ob0 5), .ref (ob0 6), .ref (ob0 7), .ref (ob0 8), .ref (ob0 9), .int (Md_end (o59.2)), .int (Md_nodes (o59.2)), .ref (ob0 10), .ref (ob0 11), .int (Md_fields (o59.2)), .ref (ob0 12), .ref (ob0 13), .int (Md_pushed (o59.2)), .ref (ob0 14), .int (Md_touches (o59.2)), .ref (ob0 15), .ref (ob0 16), .ref (ob0 17), .ref (ob0 18), .ref (ad63 0), .ref (ad63 1), .int (Md_length (o59.2))])), ((ob0 1), .inl (cA 1, (Md_kinds (o59.2)).1, .inl (Md_kinds (o59.2)).2)), ((ob0 2), .inl (cA 0, (Md_values (o59.2)).1, .inl (Md_values (o59.2)).2)), ((ob0 3), .inl (cA 0, (Md_firsts (o59.2)).1, .inl (Md_firsts (o59.2)).2)), ((ob0 4), .inl (cA 0, (Md_manies (o59.2)).1, .inl (Md_manies (o59.2)).2)), ((ob0 5), .inl (cA 2, (Md_said (o59.2)).1, .inl (Md_said (o59.2)).2)), ((ob0 6), .inl (cA 2, (Md_marked (o59.2)).1, .inl (Md_marked (o59.2)).2)), ((ob0 7), .inl (cA 0, (Md_leaders (o59.2)).1, .inl (Md_leaders (o59.2)).2)), ((ob0 8), .inl (cA 0, (Md_trial (o59.2)).1, .inl (Md_trial (o59.2)).2)), ((ob0 9), .inl (cA 0, (Md_shown (o59.2)).1, .inl (Md_shown (o59.2)).2)), ((ob0 10), .inl (cA 0, (Md_features (o59.2)).1, .inl (Md_features (o59.2)).2)), ((ob0 11), .inl (cA 0, (Md_parts (o59.2)).1, .inl (Md_parts (o59.2)).2)), ((ob0 12), .inl (cA 0, (Md_pushedFeatures (o59.2)).1, .inl (Md_pushedFeatures (o59.2)).2)), ((ob0 13), .inl (cA 0, (Md_pushedParts (o59.2)).1, .inl (Md_pushedParts (o59.2)).2)), ((ob0 14), .inl (cA 0, (Md_touched (o59.2)).1, .inl (Md_touched (o59.2)).2)), ((ob0 15), .inl (cA 0, (Md_reached (o59.2)).1, .inl (Md_reached (o59.2)).2)), ((ob0 16), .inl (cA 0, (Md_blocks (o59.2)).1, .inl (Md_blocks (o59.2)).2)), ((ob0 17), .inl (cA 0, (Md_newBlocks (o59.2)).1, .inl (Md_newBlocks (o59.2)).2)), ((ob0 18), .inl (cA 0, (Md_places (o59.2)).1, .inl (Md_places (o59.2)).2)), ((ad63 0), .inl (cA 0, (Md_written (o59.2)).1, .inl (Md_written (o59.2)).2)), ((ad63 1), .inl (cA 0, (Md_other (o59.2)).1, .inl (Md_other (o59.2)).2))]) (lv' := [(0, .ref (ob0 0)), (1, .int p0), (2, .int p1), (3, .int (o59.1))]) rfl rfl ?_
        refine x_aload_n F d_Md_tell_76 0 rfl rfl ?_
        refine x_get F ck_Md hin_Md 0 7 rfl (by decide) kw_641 rfl rfl d_Md_tell_77 ?_
        refine x_iconst (v := (0 : Int32)) F d_Md_tell_80 (by decide) ?_
        refine x_aload_n F d_Md_tell_81 0 rfl rfl ?_
        refine x_get F ck_Md hin_Md 0 6 rfl (by decide) kw_640 rfl rfl d_Md_tell_82 ?_
        refine x_iconst (v := (0 : Int32)) F d_Md_tell_85 (by decide) ?_
        refine x_aload_n F d_Md_tell_86 0 rfl rfl ?_
        refine x_get F ck_Md hin_Md 0 9 rfl (by decide) kw_643 rfl rfl d_Md_tell_87 ?_
        replace hm := xm_cp_some hm
        obtain ⟨a64, e_a64, b_a64, hm⟩ := hm
        refine x_copy (x := (Md_trial (o59.2))) (y := (Md_leaders (o59.2))) (y' := a64) (ws' := [((ob0 0), .inr (8, [.ref (ob0 1), .ref (ob0 2), .ref (ob0 3), .ref (ob0 4), .ref (ob0 5), .ref (ob0 6), .ref (ob0 7), .ref (ob0 8), .ref (ob0 9), .int (Md_end (o59.2)), .int (Md_nodes (o59.2)), .ref (ob0 10), .ref (ob0 11), .int (Md_fields (o59.2)), .ref (ob0 12), .ref (ob0 13), .int (Md_pushed (o59.2)), .ref (ob0 14), .int (Md_touches (o59.2)), .ref (ob0 15), .ref (ob0 16), .ref (ob0 17), .ref (ob0 18), .ref (ad63 0), .ref (ad63 1), .int (Md_length (o59.2))])), ((ob0 1), .inl (cA 1, (Md_kinds (o59.2)).1, .inl (Md_kinds (o59.2)).2)), ((ob0 2), .inl (cA 0, (Md_values (o59.2)).1, .inl (Md_values (o59.2)).2)), ((ob0 3), .inl (cA 0, (Md_firsts (o59.2)).1, .inl (Md_firsts (o59.2)).2)), ((ob0 4), .inl (cA 0, (Md_manies (o59.2)).1, .inl (Md_manies (o59.2)).2)), ((ob0 5), .inl (cA 2, (Md_said (o59.2)).1, .inl (Md_said (o59.2)).2)), ((ob0 6), .inl (cA 2, (Md_marked (o59.2)).1, .inl (Md_marked (o59.2)).2)), ((ob0 7), .inl (cA 0, a64.1, .inl a64.2)), ((ob0 8), .inl (cA 0, (Md_trial (o59.2)).1, .inl (Md_trial (o59.2)).2)), ((ob0 9), .inl (cA 0, (Md_shown (o59.2)).1, .inl (Md_shown (o59.2)).2)), ((ob0 10), .inl (cA 0, (Md_features (o59.2)).1, .inl (Md_features (o59.2)).2)), ((ob0 11), .inl (cA 0, (Md_parts (o59.2)).1, .inl (Md_parts (o59.2)).2)), ((ob0 12), .inl (cA 0, (Md_pushedFeatures (o59.2)).1, .inl (Md_pushedFeatures (o59.2)).2)), ((ob0 13), .inl (cA 0, (Md_pushedParts (o59.2)).1, .inl (Md_pushedParts (o59.2)).2)), ((ob0 14), .inl (cA 0, (Md_touched (o59.2)).1, .inl (Md_touched (o59.2)).2)), ((ob0 15), .inl (cA 0, (Md_reached (o59.2)).1, .inl (Md_reached (o59.2)).2)), ((ob0 16), .inl (cA 0, (Md_blocks (o59.2)).1, .inl (Md_blocks (o59.2)).2)), ((ob0 17), .inl (cA 0, (Md_newBlocks (o59.2)).1, .inl (Md_newBlocks (o59.2)).2)), ((ob0 18), .inl (cA 0, (Md_places (o59.2)).1, .inl (Md_places (o59.2)).2)), ((ad63 0), .inl (cA 0, (Md_written (o59.2)).1, .inl (Md_written (o59.2)).2)), ((ad63 1), .inl (cA 0, (Md_other (o59.2)).1, .inl (Md_other (o59.2)).2))]) F kt_766_28 kt_332_4 kt_331_5 kw_50 8 7 rfl rfl b_a64 e_a64 rfl (by decide) (Nat.le_of_ble_eq_true rfl) d_Md_tell_90 ?_
        refine x_aload_n F d_Md_tell_93 0 rfl rfl ?_
        replace hm := xm_b_some hm
        obtain ⟨o65, k66, k67, h68, hm, c_o65, d_o65⟩ := hm
        refine x_callV (n := 0) (C := R_Md) (wr := []) F (c_Md_unmark l D cA n ob0 ad63 ((Md_kinds (o59.2)), (Md_values (o59.2)), (Md_firsts (o59.2)), (Md_manies (o59.2)), (Md_said (o59.2)), (Md_marked (o59.2)), a64, (Md_trial (o59.2)), (Md_shown (o59.2)), (Md_end (o59.2)), (Md_nodes (o59.2)), (Md_features (o59.2)), (Md_parts (o59.2)), (Md_fields (o59.2)), (Md_pushedFeatures (o59.2)), (Md_pushedParts (o59.2)), (Md_pushed (o59.2)), (Md_touched (o59.2)), (Md_touches (o59.2)), (Md_reached (o59.2)), (Md_blocks (o59.2)), (Md_newBlocks (o59.2)), (Md_places (o59.2)), (Md_written (o59.2)), (Md_other (o59.2)), (Md_length (o59.2)))  o65 k66 h68) kw_726 kw_723 kw_725 kw_19 kw_47 ⟨rfl, by decide, by decide, by decide +kernel⟩ rfl (by decide) (by decide) (ci := 8) rfl rfl 0 rfl [0, 1, 2, 3, 4, 5, 6, 7, 8, 9, 10, 11, 12, 13, 14, 15, 16, 17, 18, 19, 20] [] rfl rfl (by decide) (by decide) (by decide) rfl (Nat.le_of_ble_eq_true rfl) (by omega) (by omega) d_Md_tell_94 (fun ad69 => ?_)
        refine x_nf (ws' := [((ob0 0), .inr (8, [.ref (ob0 1), .ref (ob0 2), .ref (ob0 3), .ref (ob0 4), .ref (ob0 5), .ref (ob0 6), .ref (ob0 7), .ref (ob0 8), .ref (ob0 9), .int (Md_end o65), .int (Md_nodes o65), .ref (ob0 10), .ref (ob0 11), .int (Md_fields o65), .ref (ob0 12), .ref (ob0 13), .int (Md_pushed o65), .ref (ob0 14), .int (Md_touches o65), .ref (ob0 15), .ref (ob0 16), .ref (ob0 17), .ref (ob0 18), .ref (ad69 0), .ref (ad69 1), .int (Md_length o65)])), ((ob0 1), .inl (cA 1, (Md_kinds o65).1, .inl (Md_kinds o65).2)), ((ob0 2), .inl (cA 0, (Md_values o65).1, .inl (Md_values o65).2)), ((ob0 3), .inl (cA 0, (Md_firsts o65).1, .inl (Md_firsts o65).2)), ((ob0 4), .inl (cA 0, (Md_manies o65).1, .inl (Md_manies o65).2)), ((ob0 5), .inl (cA 2, (Md_said o65).1, .inl (Md_said o65).2)), ((ob0 6), .inl (cA 2, (Md_marked o65).1, .inl (Md_marked o65).2)), ((ob0 7), .inl (cA 0, (Md_leaders o65).1, .inl (Md_leaders o65).2)), ((ob0 8), .inl (cA 0, (Md_trial o65).1, .inl (Md_trial o65).2)), ((ob0 9), .inl (cA 0, (Md_shown o65).1, .inl (Md_shown o65).2)), ((ob0 10), .inl (cA 0, (Md_features o65).1, .inl (Md_features o65).2)), ((ob0 11), .inl (cA 0, (Md_parts o65).1, .inl (Md_parts o65).2)), ((ob0 12), .inl (cA 0, (Md_pushedFeatures o65).1, .inl (Md_pushedFeatures o65).2)), ((ob0 13), .inl (cA 0, (Md_pushedParts o65).1, .inl (Md_pushedParts o65).2)), ((ob0 14), .inl (cA 0, (Md_touched o65).1, .inl (Md_touched o65).2)), ((ob0 15), .inl (cA 0, (Md_reached o65).1, .inl (Md_reached o65).2)), ((ob0 16), .inl (cA 0, (Md_blocks o65).1, .inl (Md_blocks o65).2)), ((ob0 17), .inl (cA 0, (Md_newBlocks o65).1, .inl (Md_newBlocks o65).2)), ((ob0 18), .inl (cA 0, (Md_places o65).1, .inl (Md_places o65).2)), ((ad69 0), .inl (cA 0, (Md_written o65).1, .inl (Md_written o65).2)), ((ad69 1), .inl (cA 0, (Md_other o65).1, .inl (Md_other o65).2))]) (st' := []) rfl rfl ?_
        refine x_iconst (v := (1 : Int32)) F d_Md_tell_97 (by decide) ?_
        replace hm := xm_p_some hm
        obtain ⟨eo, c_o, d_o⟩ := hm
        subst eo
        refine x_sub [0, 1, 2, 3, 4, 5, 6, 7, 8, 9, 10, 11, 12, 13, 14, 15, 16, 17, 18, 19, 20] (by decide) ?_ (xe_i E ad69 (by omega) (by omega) rfl xz_1 d_Md_tell_98)
        rfl
      · replace hm := xm_t hm c50
        refine x_iconst (v := (0 : Int32)) F d_Md_tell_25 (by decide) ?_
        replace hm := xm_p_some hm
        obtain ⟨eo, c_o, d_o⟩ := hm
        subst eo
        refine x_sub [0, 1, 2, 3, 4, 5, 6, 7, 8, 9, 10, 11, 12, 13, 14, 15, 16, 17, 18, 19, 20] (by decide) ?_ (xe_i E ad49 (by omega) (by omega) rfl xz_0 d_Md_tell_26)
        rfl

noncomputable def L_Md_ask_35 (y1 : Int32) (y2 : Int32) (s0 : S_Md) (n i : Nat) : Int32 → Int32 → MO (Int32 × Int32) := Nat.rec (motive := fun _ => Int32 → Int32 → MO (Int32 × Int32)) (fun _ _ => none) (fun _ ih x3 x4 => (if (Md_end s0) ≤ x4 then (xm_p ((x3, x4))) else (if x3 = 0 then (xm_b (m_Md_changes n s0 x4) (fun o47 => (ih o47 (x4 + 1)))) else (xm_p ((x3, x4)))))) i
theorem L_Md_ask_35_s (y1 : Int32) (y2 : Int32) (s0 : S_Md) (n i : Nat) (x3 : Int32) (x4 : Int32) : L_Md_ask_35 y1 y2 s0 n (i + 1) x3 x4 = (if (Md_end s0) ≤ x4 then (xm_p ((x3, x4))) else (if x3 = 0 then (xm_b (m_Md_changes n s0 x4) (fun o47 => (L_Md_ask_35 y1 y2 s0 n i o47 (x4 + 1)))) else (xm_p ((x3, x4))))) := rfl
noncomputable def m_Md_ask (n : Nat) (s0 : S_Md) (p0 : Int32) (p1 : Int32) : MO (Int32 × S_Md) := (xm_b (m_Md_has n s0 p0) (fun o27 => (if o27 = 0 then (xm_p ((-2 : Int32), s0)) else (xm_b (m_Md_has n s0 p1) (fun o33 => (if o33 = 0 then (xm_p ((-2 : Int32), s0)) else (xm_b (m_Md_suppose n s0 p0 p1) (fun o39 => (if (o39.1) = 0 then (xm_p ((0 : Int32), (o39.2))) else (xm_b (L_Md_ask_35 p0 p1 (o39.2) n n (0 : Int32) (0 : Int32)) (fun o52 => (if (o52.1) = 0 then (xm_p ((1 : Int32), (o39.2))) else (xm_p ((-1 : Int32), (o39.2)))))))))))))))
set_option maxHeartbeats 4000000 in
set_option maxRecDepth 100000 in
theorem wl_Md_ask_35 {X : XT} {l : Launch} {D : va_G} {cA : Nat → ClassId} {mc ms : Nat} (F : XF X l D cA b_Md_ask 5 (some FieldType.int) R_Md 3 86 mc ms) (n : Nat) (ob0 : Nat → Nat) (y1 : Int32) (y2 : Int32) (s0 : S_Md)  (ad0 : Nat → Nat) : ∀ (i : Nat) (x3 : Int32) (x4 : Int32)  (nc ns : Nat) (out : Int32 × Int32) (k : KC), L_Md_ask_35 y1 y2 s0 n i x3 x4 = some (out, k) → nc + k.1 ≤ mc → ns + k.2 ≤ ms → (∀ ad : Nat → Nat, XW X 5 ((w_Md cA ob0 ad0  s0)) (nc + k.1) (ns + k.2) 61 [(0, .ref (ob0 0)), (1, .int y1), (2, .int y2), (3, .int (out.1)), (4, .int (out.2))] []) → XW X 5 ((w_Md cA ob0 ad0  s0)) nc ns 35 [(0, .ref (ob0 0)), (1, .int y1), (2, .int y2), (3, .int x3), (4, .int x4)] [] := by
  intro i
  induction i with
  | zero =>
    intro x3 x4  nc ns out k hm
    replace hm : (none : MO (Int32 × Int32)) = some (out, k) := hm
    cases hm
  | succ i ih =>
    intro x3 x4  nc ns out k hm hc hs KX
    rw [L_Md_ask_35_s] at hm
    refine x_ws (ws' := [((ob0 0), .inr (8, [.ref (ob0 1), .ref (ob0 2), .ref (ob0 3), .ref (ob0 4), .ref (ob0 5), .ref (ob0 6), .ref (ob0 7), .ref (ob0 8), .ref (ob0 9), .int (Md_end s0), .int (Md_nodes s0), .ref (ob0 10), .ref (ob0 11), .int (Md_fields s0), .ref (ob0 12), .ref (ob0 13), .int (Md_pushed s0), .ref (ob0 14), .int (Md_touches s0), .ref (ob0 15), .ref (ob0 16), .ref (ob0 17), .ref (ob0 18), .ref (ad0 0), .ref (ad0 1), .int (Md_length s0)])), ((ob0 1), .inl (cA 1, (Md_kinds s0).1, .inl (Md_kinds s0).2)), ((ob0 2), .inl (cA 0, (Md_values s0).1, .inl (Md_values s0).2)), ((ob0 3), .inl (cA 0, (Md_firsts s0).1, .inl (Md_firsts s0).2)), ((ob0 4), .inl (cA 0, (Md_manies s0).1, .inl (Md_manies s0).2)), ((ob0 5), .inl (cA 2, (Md_said s0).1, .inl (Md_said s0).2)), ((ob0 6), .inl (cA 2, (Md_marked s0).1, .inl (Md_marked s0).2)), ((ob0 7), .inl (cA 0, (Md_leaders s0).1, .inl (Md_leaders s0).2)), ((ob0 8), .inl (cA 0, (Md_trial s0).1, .inl (Md_trial s0).2)), ((ob0 9), .inl (cA 0, (Md_shown s0).1, .inl (Md_shown s0).2)), ((ob0 10), .inl (cA 0, (Md_features s0).1, .inl (Md_features s0).2)), ((ob0 11), .inl (cA 0, (Md_parts s0).1, .inl (Md_parts s0).2)), ((ob0 12), .inl (cA 0, (Md_pushedFeatures s0).1, .inl (Md_pushedFeatures s0).2)), ((ob0 13), .inl (cA 0, (Md_pushedParts s0).1, .inl (Md_pushedParts s0).2)), ((ob0 14), .inl (cA 0, (Md_touched s0).1, .inl (Md_touched s0).2)), ((ob0 15), .inl (cA 0, (Md_reached s0).1, .inl (Md_reached s0).2)), ((ob0 16), .inl (cA 0, (Md_blocks s0).1, .inl (Md_blocks s0).2)), ((ob0 17), .inl (cA 0, (Md_newBlocks s0).1, .inl (Md_newBlocks s0).2)), ((ob0 18), .inl (cA 0, (Md_places s0).1, .inl (Md_places s0).2)), ((ad0 0), .inl (cA 0, (Md_written s0).1, .inl (Md_written s0).2)), ((ad0 1), .inl (cA 0, (Md_other s0).1, .inl (Md_other s0).2))]) rfl ?_
    refine x_iload F d_Md_ask_35 4 rfl ?_
    refine x_aload_n F d_Md_ask_37 0 rfl rfl ?_
    refine x_get F ck_Md hin_Md 0 9 rfl (by decide) kw_643 rfl rfl d_Md_ask_38 ?_
    refine x_icmp_ge F 61 d_Md_ask_41 (by decide) (fun c45 => ?_) (fun c45 => ?_)
    · replace hm := xm_t hm c45
      replace hm := xm_p_some hm
      obtain ⟨eo, c_o, d_o⟩ := hm
      subst eo
      refine x_sub [0, 1, 2, 3, 4, 5, 6, 7, 8, 9, 10, 11, 12, 13, 14, 15, 16, 17, 18, 19, 20] (by decide) ?_ (x_lv [0, 1, 2, 3, 4] ?_ (x_cs (by omega) (by omega) (KX (fun _ => 0))))
      · rfl
      · rfl
    · replace hm := xm_f hm c45
      refine x_iload_n F d_Md_ask_44 3 rfl rfl ?_
      refine x_if_ne F 61 d_Md_ask_45 (by decide) (fun c46 => ?_) (fun c46 => ?_)
      · replace hm := xm_f hm c46
        replace hm := xm_p_some hm
        obtain ⟨eo, c_o, d_o⟩ := hm
        subst eo
        refine x_sub [0, 1, 2, 3, 4, 5, 6, 7, 8, 9, 10, 11, 12, 13, 14, 15, 16, 17, 18, 19, 20] (by decide) ?_ (x_lv [0, 1, 2, 3, 4] ?_ (x_cs (by omega) (by omega) (KX (fun _ => 0))))
        · rfl
        · rfl
      · replace hm := xm_t hm c46
        refine x_aload_n F d_Md_ask_48 0 rfl rfl ?_
        refine x_iload F d_Md_ask_49 4 rfl ?_
        replace hm := xm_b_some hm
        obtain ⟨o47, k48, k49, h50, hm, c_o47, d_o47⟩ := hm
        refine x_callV (n := 1) (C := R_Md) (wr := []) F (c_Md_changes l D cA n ob0 ad0 s0 x4 o47 k48 h50) kw_782 kw_779 kw_781 kw_26 kw_47 ⟨rfl, by decide, by decide, by decide +kernel⟩ rfl (by decide) (by decide) (ci := 8) rfl rfl 0 rfl [0, 1, 2, 3, 4, 5, 6, 7, 8, 9, 10, 11, 12, 13, 14, 15, 16, 17, 18, 19, 20] [] rfl rfl (by decide) (by decide) (by decide) rfl (Nat.le_of_ble_eq_true rfl) (by omega) (by omega) d_Md_ask_51 (fun ad51 => ?_)
        refine x_nf (ws' := [((ob0 0), .inr (8, [.ref (ob0 1), .ref (ob0 2), .ref (ob0 3), .ref (ob0 4), .ref (ob0 5), .ref (ob0 6), .ref (ob0 7), .ref (ob0 8), .ref (ob0 9), .int (Md_end s0), .int (Md_nodes s0), .ref (ob0 10), .ref (ob0 11), .int (Md_fields s0), .ref (ob0 12), .ref (ob0 13), .int (Md_pushed s0), .ref (ob0 14), .int (Md_touches s0), .ref (ob0 15), .ref (ob0 16), .ref (ob0 17), .ref (ob0 18), .ref (ad0 0), .ref (ad0 1), .int (Md_length s0)])), ((ob0 1), .inl (cA 1, (Md_kinds s0).1, .inl (Md_kinds s0).2)), ((ob0 2), .inl (cA 0, (Md_values s0).1, .inl (Md_values s0).2)), ((ob0 3), .inl (cA 0, (Md_firsts s0).1, .inl (Md_firsts s0).2)), ((ob0 4), .inl (cA 0, (Md_manies s0).1, .inl (Md_manies s0).2)), ((ob0 5), .inl (cA 2, (Md_said s0).1, .inl (Md_said s0).2)), ((ob0 6), .inl (cA 2, (Md_marked s0).1, .inl (Md_marked s0).2)), ((ob0 7), .inl (cA 0, (Md_leaders s0).1, .inl (Md_leaders s0).2)), ((ob0 8), .inl (cA 0, (Md_trial s0).1, .inl (Md_trial s0).2)), ((ob0 9), .inl (cA 0, (Md_shown s0).1, .inl (Md_shown s0).2)), ((ob0 10), .inl (cA 0, (Md_features s0).1, .inl (Md_features s0).2)), ((ob0 11), .inl (cA 0, (Md_parts s0).1, .inl (Md_parts s0).2)), ((ob0 12), .inl (cA 0, (Md_pushedFeatures s0).1, .inl (Md_pushedFeatures s0).2)), ((ob0 13), .inl (cA 0, (Md_pushedParts s0).1, .inl (Md_pushedParts s0).2)), ((ob0 14), .inl (cA 0, (Md_touched s0).1, .inl (Md_touched s0).2)), ((ob0 15), .inl (cA 0, (Md_reached s0).1, .inl (Md_reached s0).2)), ((ob0 16), .inl (cA 0, (Md_blocks s0).1, .inl (Md_blocks s0).2)), ((ob0 17), .inl (cA 0, (Md_newBlocks s0).1, .inl (Md_newBlocks s0).2)), ((ob0 18), .inl (cA 0, (Md_places s0).1, .inl (Md_places s0).2)), ((ad0 0), .inl (cA 0, (Md_written s0).1, .inl (Md_written s0).2)), ((ad0 1), .inl (cA 0, (Md_other s0).1, .inl (Md_other s0).2))]) (st' := [.int o47]) rfl rfl ?_
        refine x_istore_n (lv' := [(3, .int o47), (0, .ref (ob0 0)), (1, .int y1), (2, .int y2), (4, .int x4)]) F d_Md_ask_54 rfl (by decide) rfl ?_
        refine x_iinc (v := (x4 + 1)) (lv' := [(4, .int (x4 + 1)), (3, .int o47), (0, .ref (ob0 0)), (1, .int y1), (2, .int y2)]) F d_Md_ask_55 4 rfl rfl (by decide) rfl ?_
        refine x_goto F 35 d_Md_ask_58 (by decide) ?_
        refine x_sub [0, 1, 2, 3, 4, 5, 6, 7, 8, 9, 10, 11, 12, 13, 14, 15, 16, 17, 18, 19, 20] (by decide) ?_ (x_lv [2, 3, 4, 1, 0] ?_ (ih o47 (x4 + 1)  _ _ out k49 hm (by omega) (by omega) (fun ad => x_cs (by omega) (by omega) (KX ad))))
        · rfl
        · rfl
set_option maxHeartbeats 4000000 in
set_option maxRecDepth 100000 in
theorem c_Md_ask (l : Launch) (D : va_G) (cA : Nat → ClassId) (n : Nat) (ob0 ad0 : Nat → Nat) (s0 : S_Md) (p0 : Int32) (p1 : Int32) (out : Int32 × S_Md) (k : KC) (hm : m_Md_ask n s0 p0 p1 = some (out, k)) : XM l D cA y_Md_ask b_Md_ask 5 (some FieldType.int) 3 86 [.ref (ob0 0), .int p0, .int p1] ((w_Md cA ob0 ad0  s0)) k (fun _ => some (.int (out.1))) (fun ad => (w_Md cA ob0 ad  (out.2))) := by
  refine x_met (cc := b_Md_ask) (nL := 5) (ret := (some FieldType.int)) R_Md (by decide) (Nat.le_of_ble_eq_true rfl) rfl (fun X F I E => ?_)
  unfold m_Md_ask at hm
  refine x_nf2 (ws' := [((ob0 0), .inr (8, [.ref (ob0 1), .ref (ob0 2), .ref (ob0 3), .ref (ob0 4), .ref (ob0 5), .ref (ob0 6), .ref (ob0 7), .ref (ob0 8), .ref (ob0 9), .int (Md_end s0), .int (Md_nodes s0), .ref (ob0 10), .ref (ob0 11), .int (Md_fields s0), .ref (ob0 12), .ref (ob0 13), .int (Md_pushed s0), .ref (ob0 14), .int (Md_touches s0), .ref (ob0 15), .ref (ob0 16), .ref (ob0 17), .ref (ob0 18), .ref (ad0 0), .ref (ad0 1), .int (Md_length s0)])), ((ob0 1), .inl (cA 1, (Md_kinds s0).1, .inl (Md_kinds s0).2)), ((ob0 2), .inl (cA 0, (Md_values s0).1, .inl (Md_values s0).2)), ((ob0 3), .inl (cA 0, (Md_firsts s0).1, .inl (Md_firsts s0).2)), ((ob0 4), .inl (cA 0, (Md_manies s0).1, .inl (Md_manies s0).2)), ((ob0 5), .inl (cA 2, (Md_said s0).1, .inl (Md_said s0).2)), ((ob0 6), .inl (cA 2, (Md_marked s0).1, .inl (Md_marked s0).2)), ((ob0 7), .inl (cA 0, (Md_leaders s0).1, .inl (Md_leaders s0).2)), ((ob0 8), .inl (cA 0, (Md_trial s0).1, .inl (Md_trial s0).2)), ((ob0 9), .inl (cA 0, (Md_shown s0).1, .inl (Md_shown s0).2)), ((ob0 10), .inl (cA 0, (Md_features s0).1, .inl (Md_features s0).2)), ((ob0 11), .inl (cA 0, (Md_parts s0).1, .inl (Md_parts s0).2)), ((ob0 12), .inl (cA 0, (Md_pushedFeatures s0).1, .inl (Md_pushedFeatures s0).2)), ((ob0 13), .inl (cA 0, (Md_pushedParts s0).1, .inl (Md_pushedParts s0).2)), ((ob0 14), .inl (cA 0, (Md_touched s0).1, .inl (Md_touched s0).2)), ((ob0 15), .inl (cA 0, (Md_reached s0).1, .inl (Md_reached s0).2)), ((ob0 16), .inl (cA 0, (Md_blocks s0).1, .inl (Md_blocks s0).2)), ((ob0 17), .inl (cA 0, (Md_newBlocks s0).1, .inl (Md_newBlocks s0).2)), ((ob0 18), .inl (cA 0, (Md_places s0).1, .inl (Md_places s0).2)), ((ad0 0), .inl (cA 0, (Md_written s0).1, .inl (Md_written s0).2)), ((ad0 1), .inl (cA 0, (Md_other s0).1, .inl (Md_other s0).2))]) (lv' := [(0, .ref (ob0 0)), (1, .int p0), (2, .int p1)]) rfl rfl ?_
  refine x_aload_n F d_Md_ask_0 0 rfl rfl ?_
  refine x_iload_n F d_Md_ask_1 1 rfl rfl ?_
  replace hm := xm_b_some hm
  obtain ⟨o27, k28, k29, h30, hm, c_o27, d_o27⟩ := hm
  refine x_callV (n := 1) (C := R_Md) (wr := []) F (c_Md_has l D cA n ob0 ad0 s0 p0 o27 k28 h30) kw_742 kw_739 kw_741 kw_20 kw_47 ⟨rfl, by decide, by decide, by decide +kernel⟩ rfl (by decide) (by decide) (ci := 8) rfl rfl 0 rfl [0, 1, 2, 3, 4, 5, 6, 7, 8, 9, 10, 11, 12, 13, 14, 15, 16, 17, 18, 19, 20] [] rfl rfl (by decide) (by decide) (by decide) rfl (Nat.le_of_ble_eq_true rfl) (by omega) (by omega) d_Md_ask_2 (fun ad31 => ?_)
  refine x_nf (ws' := [((ob0 0), .inr (8, [.ref (ob0 1), .ref (ob0 2), .ref (ob0 3), .ref (ob0 4), .ref (ob0 5), .ref (ob0 6), .ref (ob0 7), .ref (ob0 8), .ref (ob0 9), .int (Md_end s0), .int (Md_nodes s0), .ref (ob0 10), .ref (ob0 11), .int (Md_fields s0), .ref (ob0 12), .ref (ob0 13), .int (Md_pushed s0), .ref (ob0 14), .int (Md_touches s0), .ref (ob0 15), .ref (ob0 16), .ref (ob0 17), .ref (ob0 18), .ref (ad0 0), .ref (ad0 1), .int (Md_length s0)])), ((ob0 1), .inl (cA 1, (Md_kinds s0).1, .inl (Md_kinds s0).2)), ((ob0 2), .inl (cA 0, (Md_values s0).1, .inl (Md_values s0).2)), ((ob0 3), .inl (cA 0, (Md_firsts s0).1, .inl (Md_firsts s0).2)), ((ob0 4), .inl (cA 0, (Md_manies s0).1, .inl (Md_manies s0).2)), ((ob0 5), .inl (cA 2, (Md_said s0).1, .inl (Md_said s0).2)), ((ob0 6), .inl (cA 2, (Md_marked s0).1, .inl (Md_marked s0).2)), ((ob0 7), .inl (cA 0, (Md_leaders s0).1, .inl (Md_leaders s0).2)), ((ob0 8), .inl (cA 0, (Md_trial s0).1, .inl (Md_trial s0).2)), ((ob0 9), .inl (cA 0, (Md_shown s0).1, .inl (Md_shown s0).2)), ((ob0 10), .inl (cA 0, (Md_features s0).1, .inl (Md_features s0).2)), ((ob0 11), .inl (cA 0, (Md_parts s0).1, .inl (Md_parts s0).2)), ((ob0 12), .inl (cA 0, (Md_pushedFeatures s0).1, .inl (Md_pushedFeatures s0).2)), ((ob0 13), .inl (cA 0, (Md_pushedParts s0).1, .inl (Md_pushedParts s0).2)), ((ob0 14), .inl (cA 0, (Md_touched s0).1, .inl (Md_touched s0).2)), ((ob0 15), .inl (cA 0, (Md_reached s0).1, .inl (Md_reached s0).2)), ((ob0 16), .inl (cA 0, (Md_blocks s0).1, .inl (Md_blocks s0).2)), ((ob0 17), .inl (cA 0, (Md_newBlocks s0).1, .inl (Md_newBlocks s0).2)), ((ob0 18), .inl (cA 0, (Md_places s0).1, .inl (Md_places s0).2)), ((ad0 0), .inl (cA 0, (Md_written s0).1, .inl (Md_written s0).2)), ((ad0 1), .inl (cA 0, (Md_other s0).1, .inl (Md_other s0).2))]) (st' := [.int o27]) rfl rfl ?_
  refine x_if_eq F 16 d_Md_ask_5 (by decide) (fun c32 => ?_) (fun c32 => ?_)
  · replace hm := xm_t hm c32
    refine x_bipush (v := (-2 : Int32)) F d_Md_ask_16 (by decide) ?_
    replace hm := xm_p_some hm
    obtain ⟨eo, c_o, d_o⟩ := hm
    subst eo
    refine x_sub [0, 1, 2, 3, 4, 5, 6, 7, 8, 9, 10, 11, 12, 13, 14, 15, 16, 17, 18, 19, 20] (by decide) ?_ (xe_i E ad0 (by omega) (by omega) rfl (xz_i _) d_Md_ask_18)
    rfl
  · replace hm := xm_f hm c32
    refine x_aload_n F d_Md_ask_8 0 rfl rfl ?_
    refine x_iload_n F d_Md_ask_9 2 rfl rfl ?_
    replace hm := xm_b_some hm
    obtain ⟨o33, k34, k35, h36, hm, c_o33, d_o33⟩ := hm
    refine x_callV (n := 1) (C := R_Md) (wr := []) F (c_Md_has l D cA n ob0 ad0 s0 p1 o33 k34 h36) kw_742 kw_739 kw_741 kw_20 kw_47 ⟨rfl, by decide, by decide, by decide +kernel⟩ rfl (by decide) (by decide) (ci := 8) rfl rfl 0 rfl [0, 1, 2, 3, 4, 5, 6, 7, 8, 9, 10, 11, 12, 13, 14, 15, 16, 17, 18, 19, 20] [] rfl rfl (by decide) (by decide) (by decide) rfl (Nat.le_of_ble_eq_true rfl) (by omega) (by omega) d_Md_ask_10 (fun ad37 => ?_)
    refine x_nf (ws' := [((ob0 0), .inr (8, [.ref (ob0 1), .ref (ob0 2), .ref (ob0 3), .ref (ob0 4), .ref (ob0 5), .ref (ob0 6), .ref (ob0 7), .ref (ob0 8), .ref (ob0 9), .int (Md_end s0), .int (Md_nodes s0), .ref (ob0 10), .ref (ob0 11), .int (Md_fields s0), .ref (ob0 12), .ref (ob0 13), .int (Md_pushed s0), .ref (ob0 14), .int (Md_touches s0), .ref (ob0 15), .ref (ob0 16), .ref (ob0 17), .ref (ob0 18), .ref (ad0 0), .ref (ad0 1), .int (Md_length s0)])), ((ob0 1), .inl (cA 1, (Md_kinds s0).1, .inl (Md_kinds s0).2)), ((ob0 2), .inl (cA 0, (Md_values s0).1, .inl (Md_values s0).2)), ((ob0 3), .inl (cA 0, (Md_firsts s0).1, .inl (Md_firsts s0).2)), ((ob0 4), .inl (cA 0, (Md_manies s0).1, .inl (Md_manies s0).2)), ((ob0 5), .inl (cA 2, (Md_said s0).1, .inl (Md_said s0).2)), ((ob0 6), .inl (cA 2, (Md_marked s0).1, .inl (Md_marked s0).2)), ((ob0 7), .inl (cA 0, (Md_leaders s0).1, .inl (Md_leaders s0).2)), ((ob0 8), .inl (cA 0, (Md_trial s0).1, .inl (Md_trial s0).2)), ((ob0 9), .inl (cA 0, (Md_shown s0).1, .inl (Md_shown s0).2)), ((ob0 10), .inl (cA 0, (Md_features s0).1, .inl (Md_features s0).2)), ((ob0 11), .inl (cA 0, (Md_parts s0).1, .inl (Md_parts s0).2)), ((ob0 12), .inl (cA 0, (Md_pushedFeatures s0).1, .inl (Md_pushedFeatures s0).2)), ((ob0 13), .inl (cA 0, (Md_pushedParts s0).1, .inl (Md_pushedParts s0).2)), ((ob0 14), .inl (cA 0, (Md_touched s0).1, .inl (Md_touched s0).2)), ((ob0 15), .inl (cA 0, (Md_reached s0).1, .inl (Md_reached s0).2)), ((ob0 16), .inl (cA 0, (Md_blocks s0).1, .inl (Md_blocks s0).2)), ((ob0 17), .inl (cA 0, (Md_newBlocks s0).1, .inl (Md_newBlocks s0).2)), ((ob0 18), .inl (cA 0, (Md_places s0).1, .inl (Md_places s0).2)), ((ad0 0), .inl (cA 0, (Md_written s0).1, .inl (Md_written s0).2)), ((ad0 1), .inl (cA 0, (Md_other s0).1, .inl (Md_other s0).2))]) (st' := [.int o33]) rfl rfl ?_
    refine x_if_ne F 19 d_Md_ask_13 (by decide) (fun c38 => ?_) (fun c38 => ?_)
    · replace hm := xm_f hm c38
      refine x_aload_n F d_Md_ask_19 0 rfl rfl ?_
      refine x_iload_n F d_Md_ask_20 1 rfl rfl ?_
      refine x_iload_n F d_Md_ask_21 2 rfl rfl ?_
      replace hm := xm_b_some hm
      obtain ⟨o39, k40, k41, h42, hm, c_o39, d_o39⟩ := hm
      refine x_callV (n := 2) (C := R_Md) (wr := []) F (c_Md_suppose l D cA n ob0 ad0 s0 p0 p1 o39 k40 h42) kw_765 kw_762 kw_764 kw_22 kw_47 ⟨rfl, by decide, by decide, by decide +kernel⟩ rfl (by decide) (by decide) (ci := 8) rfl rfl 0 rfl [0, 1, 2, 3, 4, 5, 6, 7, 8, 9, 10, 11, 12, 13, 14, 15, 16, 17, 18, 19, 20] [] rfl rfl (by decide) (by decide) (by decide) rfl (Nat.le_of_ble_eq_true rfl) (by omega) (by omega) d_Md_ask_22 (fun ad43 => ?_)
      refine x_nf (ws' := [((ob0 0), .inr (8, [.ref (ob0 1), .ref (ob0 2), .ref (ob0 3), .ref (ob0 4), .ref (ob0 5), .ref (ob0 6), .ref (ob0 7), .ref (ob0 8), .ref (ob0 9), .int (Md_end (o39.2)), .int (Md_nodes (o39.2)), .ref (ob0 10), .ref (ob0 11), .int (Md_fields (o39.2)), .ref (ob0 12), .ref (ob0 13), .int (Md_pushed (o39.2)), .ref (ob0 14), .int (Md_touches (o39.2)), .ref (ob0 15), .ref (ob0 16), .ref (ob0 17), .ref (ob0 18), .ref (ad43 0), .ref (ad43 1), .int (Md_length (o39.2))])), ((ob0 1), .inl (cA 1, (Md_kinds (o39.2)).1, .inl (Md_kinds (o39.2)).2)), ((ob0 2), .inl (cA 0, (Md_values (o39.2)).1, .inl (Md_values (o39.2)).2)), ((ob0 3), .inl (cA 0, (Md_firsts (o39.2)).1, .inl (Md_firsts (o39.2)).2)), ((ob0 4), .inl (cA 0, (Md_manies (o39.2)).1, .inl (Md_manies (o39.2)).2)), ((ob0 5), .inl (cA 2, (Md_said (o39.2)).1, .inl (Md_said (o39.2)).2)), ((ob0 6), .inl (cA 2, (Md_marked (o39.2)).1, .inl (Md_marked (o39.2)).2)), ((ob0 7), .inl (cA 0, (Md_leaders (o39.2)).1, .inl (Md_leaders (o39.2)).2)), ((ob0 8), .inl (cA 0, (Md_trial (o39.2)).1, .inl (Md_trial (o39.2)).2)), ((ob0 9), .inl (cA 0, (Md_shown (o39.2)).1, .inl (Md_shown (o39.2)).2)), ((ob0 10), .inl (cA 0, (Md_features (o39.2)).1, .inl (Md_features (o39.2)).2)), ((ob0 11), .inl (cA 0, (Md_parts (o39.2)).1, .inl (Md_parts (o39.2)).2)), ((ob0 12), .inl (cA 0, (Md_pushedFeatures (o39.2)).1, .inl (Md_pushedFeatures (o39.2)).2)), ((ob0 13), .inl (cA 0, (Md_pushedParts (o39.2)).1, .inl (Md_pushedParts (o39.2)).2)), ((ob0 14), .inl (cA 0, (Md_touched (o39.2)).1, .inl (Md_touched (o39.2)).2)), ((ob0 15), .inl (cA 0, (Md_reached (o39.2)).1, .inl (Md_reached (o39.2)).2)), ((ob0 16), .inl (cA 0, (Md_blocks (o39.2)).1, .inl (Md_blocks (o39.2)).2)), ((ob0 17), .inl (cA 0, (Md_newBlocks (o39.2)).1, .inl (Md_newBlocks (o39.2)).2)), ((ob0 18), .inl (cA 0, (Md_places (o39.2)).1, .inl (Md_places (o39.2)).2)), ((ad43 0), .inl (cA 0, (Md_written (o39.2)).1, .inl (Md_written (o39.2)).2)), ((ad43 1), .inl (cA 0, (Md_other (o39.2)).1, .inl (Md_other (o39.2)).2))]) (st' := [.int (o39.1)]) rfl rfl ?_
      refine x_if_ne F 30 d_Md_ask_25 (by decide) (fun c44 => ?_) (fun c44 => ?_)
      · replace hm := xm_f hm c44
        refine x_iconst (v := (0 : Int32)) F d_Md_ask_30 (by decide) ?_
        refine x_istore_n (lv' := [(3, .int (0 : Int32)), (0, .ref (ob0 0)), (1, .int p0), (2, .int p1)]) F d_Md_ask_31 rfl (by decide) rfl ?_
        refine x_iconst (v := (0 : Int32)) F d_Md_ask_32 (by decide) ?_
        refine x_istore (lv' := [(4, .int (0 : Int32)), (3, .int (0 : Int32)), (0, .ref (ob0 0)), (1, .int p0), (2, .int p1)]) F d_Md_ask_33 (by decide) rfl ?_
        replace hm := xm_b_some hm
        obtain ⟨o52, k53, k54, h55, hm, c_o52, d_o52⟩ := hm
        refine x_sub [0, 1, 2, 3, 4, 5, 6, 7, 8, 9, 10, 11, 12, 13, 14, 15, 16, 17, 18, 19, 20] (by decide) ?_ (x_lv [2, 3, 4, 1, 0] ?_ (wl_Md_ask_35 F n ob0 p0 p1 (o39.2) ad43 n (0 : Int32) (0 : Int32)  _ _ o52 k53 h55 (by omega) (by omega) (fun ad56 => ?_)))
        · rfl
        · rfl
        refine x_nf2 (ws' := [((ob0 0), .inr (8, [.ref (ob0 1), .ref (ob0 2), .ref (ob0 3), .ref (ob0 4), .ref (ob0 5), .ref (ob0 6), .ref (ob0 7), .ref (ob0 8), .ref (ob0 9), .int (Md_end (o39.2)), .int (Md_nodes (o39.2)), .ref (ob0 10), .ref (ob0 11), .int (Md_fields (o39.2)), .ref (ob0 12), .ref (ob0 13), .int (Md_pushed (o39.2)), .ref (ob0 14), .int (Md_touches (o39.2)), .ref (ob0 15), .ref (ob0 16), .ref (ob0 17), .ref (ob0 18), .ref (ad43 0), .ref (ad43 1), .int (Md_length (o39.2))])), ((ob0 1), .inl (cA 1, (Md_kinds (o39.2)).1, .inl (Md_kinds (o39.2)).2)), ((ob0 2), .inl (cA 0, (Md_values (o39.2)).1, .inl (Md_values (o39.2)).2)), ((ob0 3), .inl (cA 0, (Md_firsts (o39.2)).1, .inl (Md_firsts (o39.2)).2)), ((ob0 4), .inl (cA 0, (Md_manies (o39.2)).1, .inl (Md_manies (o39.2)).2)), ((ob0 5), .inl (cA 2, (Md_said (o39.2)).1, .inl (Md_said (o39.2)).2)), ((ob0 6), .inl (cA 2, (Md_marked (o39.2)).1, .inl (Md_marked (o39.2)).2)), ((ob0 7), .inl (cA 0, (Md_leaders (o39.2)).1, .inl (Md_leaders (o39.2)).2)), ((ob0 8), .inl (cA 0, (Md_trial (o39.2)).1, .inl (Md_trial (o39.2)).2)), ((ob0 9), .inl (cA 0, (Md_shown (o39.2)).1, .inl (Md_shown (o39.2)).2)), ((ob0 10), .inl (cA 0, (Md_features (o39.2)).1, .inl (Md_features (o39.2)).2)), ((ob0 11), .inl (cA 0, (Md_parts (o39.2)).1, .inl (Md_parts (o39.2)).2)), ((ob0 12), .inl (cA 0, (Md_pushedFeatures (o39.2)).1, .inl (Md_pushedFeatures (o39.2)).2)), ((ob0 13), .inl (cA 0, (Md_pushedParts (o39.2)).1, .inl (Md_pushedParts (o39.2)).2)), ((ob0 14), .inl (cA 0, (Md_touched (o39.2)).1, .inl (Md_touched (o39.2)).2)), ((ob0 15), .inl (cA 0, (Md_reached (o39.2)).1, .inl (Md_reached (o39.2)).2)), ((ob0 16), .inl (cA 0, (Md_blocks (o39.2)).1, .inl (Md_blocks (o39.2)).2)), ((ob0 17), .inl (cA 0, (Md_newBlocks (o39.2)).1, .inl (Md_newBlocks (o39.2)).2)), ((ob0 18), .inl (cA 0, (Md_places (o39.2)).1, .inl (Md_places (o39.2)).2)), ((ad43 0), .inl (cA 0, (Md_written (o39.2)).1, .inl (Md_written (o39.2)).2)), ((ad43 1), .inl (cA 0, (Md_other (o39.2)).1, .inl (Md_other (o39.2)).2))]) (lv' := [(0, .ref (ob0 0)), (1, .int p0), (2, .int p1), (3, .int (o52.1)), (4, .int (o52.2))]) rfl rfl ?_
        refine x_iload_n F d_Md_ask_61 3 rfl rfl ?_
        refine x_if_eq F 69 d_Md_ask_62 (by decide) (fun c57 => ?_) (fun c57 => ?_)
        · replace hm := xm_t hm c57
          refine x_iconst (v := (1 : Int32)) F d_Md_ask_69 (by decide) ?_
          replace hm := xm_p_some hm
          obtain ⟨eo, c_o, d_o⟩ := hm
          subst eo
          refine x_sub [0, 1, 2, 3, 4, 5, 6, 7, 8, 9, 10, 11, 12, 13, 14, 15, 16, 17, 18, 19, 20] (by decide) ?_ (xe_i E ad43 (by omega) (by omega) rfl (xz_i _) d_Md_ask_70)
          rfl
        · replace hm := xm_f hm c57
          refine x_iconst (v := (-1 : Int32)) F d_Md_ask_65 (by decide) ?_
          refine x_goto F 70 d_Md_ask_66 (by decide) ?_
          replace hm := xm_p_some hm
          obtain ⟨eo, c_o, d_o⟩ := hm
          subst eo
          refine x_sub [0, 1, 2, 3, 4, 5, 6, 7, 8, 9, 10, 11, 12, 13, 14, 15, 16, 17, 18, 19, 20] (by decide) ?_ (xe_i E ad43 (by omega) (by omega) rfl (xz_i _) d_Md_ask_70)
          rfl
      · replace hm := xm_t hm c44
        refine x_iconst (v := (0 : Int32)) F d_Md_ask_28 (by decide) ?_
        replace hm := xm_p_some hm
        obtain ⟨eo, c_o, d_o⟩ := hm
        subst eo
        refine x_sub [0, 1, 2, 3, 4, 5, 6, 7, 8, 9, 10, 11, 12, 13, 14, 15, 16, 17, 18, 19, 20] (by decide) ?_ (xe_i E ad43 (by omega) (by omega) rfl (xz_i _) d_Md_ask_29)
        rfl
    · replace hm := xm_t hm c38
      refine x_bipush (v := (-2 : Int32)) F d_Md_ask_16 (by decide) ?_
      replace hm := xm_p_some hm
      obtain ⟨eo, c_o, d_o⟩ := hm
      subst eo
      refine x_sub [0, 1, 2, 3, 4, 5, 6, 7, 8, 9, 10, 11, 12, 13, 14, 15, 16, 17, 18, 19, 20] (by decide) ?_ (xe_i E ad0 (by omega) (by omega) rfl (xz_i _) d_Md_ask_18)
      rfl
