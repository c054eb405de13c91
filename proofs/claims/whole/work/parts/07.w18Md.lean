noncomputable def L_Md_hangs_22 (y1 : Int32) (y2 : Int32) (y3 : Int32) (s0 : S_Md) (n i : Nat) : Int32 → Int32 → MO ((Int32 × Int32) ⊕ (Int32 × S_Md)) := Nat.rec (motive := fun _ => Int32 → Int32 → MO ((Int32 × Int32) ⊕ (Int32 × S_Md))) (fun _ _ => none) (fun _ ih x4 x5 => (if (Md_end s0) ≤ x5 then (xm_p (Sum.inl (x4, x5))) else (xm_b (m_Md_changes n s0 x5) (fun o24 => (if o24 = 0 then (ih x4 (x5 + 1)) else (if x4 = y3 then (xm_p (Sum.inr (x5, s0))) else (ih (x4 + 1) (x5 + 1)))))))) i
theorem L_Md_hangs_22_s (y1 : Int32) (y2 : Int32) (y3 : Int32) (s0 : S_Md) (n i : Nat) (x4 : Int32) (x5 : Int32) : L_Md_hangs_22 y1 y2 y3 s0 n (i + 1) x4 x5 = (if (Md_end s0) ≤ x5 then (xm_p (Sum.inl (x4, x5))) else (xm_b (m_Md_changes n s0 x5) (fun o24 => (if o24 = 0 then (L_Md_hangs_22 y1 y2 y3 s0 n i x4 (x5 + 1)) else (if x4 = y3 then (xm_p (Sum.inr (x5, s0))) else (L_Md_hangs_22 y1 y2 y3 s0 n i (x4 + 1) (x5 + 1))))))) := rfl
noncomputable def m_Md_hangs (n : Nat) (s0 : S_Md) (p0 : Int32) (p1 : Int32) (p2 : Int32) : MO (Int32 × S_Md) := (xm_b (m_Md_ask n s0 p0 p1) (fun o16 => (if (o16.1) = (-1 : Int32) then (if 0 ≤ p2 then (xm_b (L_Md_hangs_22 p0 p1 p2 (o16.2) n n (0 : Int32) (0 : Int32)) (fun o31 => Sum.elim (fun e36 => (xm_p ((-1 : Int32), (o16.2)))) (fun z => xm_p z) o31)) else (xm_p ((-1 : Int32), (o16.2)))) else (xm_p ((-1 : Int32), (o16.2))))))
set_option maxHeartbeats 4000000 in
set_option maxRecDepth 100000 in
theorem wl_Md_hangs_22 {X : XT} {l : Launch} {D : va_G} {cA : Nat → ClassId} {mc ms : Nat} (F : XF X l D cA b_Md_hangs 6 (some FieldType.int) R_Md 4 110 mc ms) (n : Nat) (ob0 : Nat → Nat) (y1 : Int32) (y2 : Int32) (y3 : Int32) (s0 : S_Md)  (ad0 : Nat → Nat) : ∀ (i : Nat) (x4 : Int32) (x5 : Int32)  (nc ns : Nat) (out : (Int32 × Int32) ⊕ (Int32 × S_Md)) (k : KC), L_Md_hangs_22 y1 y2 y3 s0 n i x4 x5 = some (out, k) → nc + k.1 ≤ mc → ns + k.2 ≤ ms → (∀ e : Int32 × Int32, out = Sum.inl e → ∀ ad : Nat → Nat, XW X 6 ((w_Md cA ob0 ad0  s0)) (nc + k.1) (ns + k.2) 58 [(0, .ref (ob0 0)), (1, .int y1), (2, .int y2), (3, .int y3), (4, .int (e.1)), (5, .int (e.2))] []) → (∀ r : Int32 × S_Md, out = Sum.inr r → ∀ (ad : Nat → Nat) (pc : Nat) (lv : List (Nat × Value)), narrow .int (.int (r.1)) = .int (r.1) → decode b_Md_hangs pc = .ok (.ireturn, 1) → XW X 6 ((w_Md cA ob0 ad  (r.2))) (nc + k.1) (ns + k.2) pc lv [.int (r.1)]) → XW X 6 ((w_Md cA ob0 ad0  s0)) nc ns 22 [(0, .ref (ob0 0)), (1, .int y1), (2, .int y2), (3, .int y3), (4, .int x4), (5, .int x5)] [] := by
  intro i
  induction i with
  | zero =>
    intro x4 x5  nc ns out k hm
    replace hm : (none : MO ((Int32 × Int32) ⊕ (Int32 × S_Md))) = some (out, k) := hm
    cases hm
  | succ i ih =>
    intro x4 x5  nc ns out k hm hc hs KX KR
    rw [L_Md_hangs_22_s] at hm
    refine x_ws (ws' := [((ob0 0), .inr (8, [.ref (ob0 1), .ref (ob0 2), .ref (ob0 3), .ref (ob0 4), .ref (ob0 5), .ref (ob0 6), .ref (ob0 7), .ref (ob0 8), .ref (ob0 9), .int (Md_end s0), .int (Md_nodes s0), .ref (ob0 10), .ref (ob0 11), .int (Md_fields s0), .ref (ob0 12), .ref (ob0 13), .int (Md_pushed s0), .ref (ob0 14), .int (Md_touches s0), .ref (ob0 15), .ref (ob0 16), .ref (ob0 17), .ref (ob0 18), .ref (ad0 0), .ref (ad0 1), .int (Md_length s0)])), ((ob0 1), .inl (cA 1, (Md_kinds s0).1, .inl (Md_kinds s0).2)), ((ob0 2), .inl (cA 0, (Md_values s0).1, .inl (Md_values s0).2)), ((ob0 3), .inl (cA 0, (Md_firsts s0).1, .inl (Md_firsts s0).2)), ((ob0 4), .inl (cA 0, (Md_manies s0).1, .inl (Md_manies s0).2)), ((ob0 5), .inl (cA 2, (Md_said s0).1, .inl (Md_said s0).2)), ((ob0 6), .inl (cA 2, (Md_marked s0).1, .inl (Md_marked s0).2)), ((ob0 7), .inl (cA 0, (Md_leaders s0).1, .inl (Md_leaders s0).2)), ((ob0 8), .inl (cA 0, (Md_trial s0).1, .inl (Md_trial s0).2)), ((ob0 9), .inl (cA 0, (Md_shown s0).1, .inl (Md_shown s0).2)), ((ob0 10), .inl (cA 0, (Md_features s0).1, .inl (Md_features s0).2)), ((ob0 11), .inl (cA 0, (Md_parts s0).1, .inl (Md_parts s0).2)), ((ob0 12), .inl (cA 0, (Md_pushedFeatures s0).1, .inl (Md_pushedFeatures s0).2)), ((ob0 13), .inl (cA 0, (Md_pushedParts s0).1, .inl (Md_pushedParts s0).2)), ((ob0 14), .inl (cA 0, (Md_touched s0).1, .inl (Md_touched s0).2)), ((ob0 15), .inl (cA 0, (Md_reached s0).1, .inl (Md_reached s0).2)), ((ob0 16), .inl (cA 0, (Md_blocks s0).1, .inl (Md_blocks s0).2)), ((ob0 17), .inl (cA 0, (Md_newBlocks s0).1, .inl (Md_newBlocks s0).2)), ((ob0 18), .inl (cA 0, (Md_places s0).1, .inl (Md_places s0).2)), ((ad0 0), .inl (cA 0, (Md_written s0).1, .inl (Md_written s0).2)), ((ad0 1), .inl (cA 0, (Md_other s0).1, .inl (Md_other s0).2))]) rfl ?_
    refine x_iload F d_Md_hangs_22 5 rfl ?_
    refine x_aload_n F d_Md_hangs_24 0 rfl rfl ?_
    refine x_get F ck_Md hin_Md 0 9 rfl (by decide) kw_643 rfl rfl d_Md_hangs_25 ?_
    refine x_icmp_ge F 58 d_Md_hangs_28 (by decide) (fun c23 => ?_) (fun c23 => ?_)
    · replace hm := xm_t hm c23
      replace hm := xm_p_some hm
      obtain ⟨eo, c_o, d_o⟩ := hm
      refine x_sub [0, 1, 2, 3, 4, 5, 6, 7, 8, 9, 10, 11, 12, 13, 14, 15, 16, 17, 18, 19, 20] (by decide) ?_ (x_lv [0, 1, 2, 3, 4, 5] ?_ (x_cs (by omega) (by omega) (KX _ eo (fun _ => 0))))
      · rfl
      · rfl
    · replace hm := xm_f hm c23
      refine x_aload_n F d_Md_hangs_31 0 rfl rfl ?_
      refine x_iload F d_Md_hangs_32 5 rfl ?_
      replace hm := xm_b_some hm
      obtain ⟨o24, k25, k26, h27, hm, c_o24, d_o24⟩ := hm
      refine x_callV (n := 1) (C := R_Md) (wr := []) F (c_Md_changes l D cA n ob0 ad0 s0 x5 o24 k25 h27) kw_782 kw_779 kw_781 kw_26 kw_47 ⟨rfl, by decide, by decide, by decide +kernel⟩ rfl (by decide) (by decide) (ci := 8) rfl rfl 0 rfl [0, 1, 2, 3, 4, 5, 6, 7, 8, 9, 10, 11, 12, 13, 14, 15, 16, 17, 18, 19, 20] [] rfl rfl (by decide) (by decide) (by decide) rfl (Nat.le_of_ble_eq_true rfl) (by omega) (by omega) d_Md_hangs_34 (fun ad28 => ?_)
      refine x_nf (ws' := [((ob0 0), .inr (8, [.ref (ob0 1), .ref (ob0 2), .ref (ob0 3), .ref (ob0 4), .ref (ob0 5), .ref (ob0 6), .ref (ob0 7), .ref (ob0 8), .ref (ob0 9), .int (Md_end s0), .int (Md_nodes s0), .ref (ob0 10), .ref (ob0 11), .int (Md_fields s0), .ref (ob0 12), .ref (ob0 13), .int (Md_pushed s0), .ref (ob0 14), .int (Md_touches s0), .ref (ob0 15), .ref (ob0 16), .ref (ob0 17), .ref (ob0 18), .ref (ad0 0), .ref (ad0 1), .int (Md_length s0)])), ((ob0 1), .inl (cA 1, (Md_kinds s0).1, .inl (Md_kinds s0).2)), ((ob0 2), .inl (cA 0, (Md_values s0).1, .inl (Md_values s0).2)), ((ob0 3), .inl (cA 0, (Md_firsts s0).1, .inl (Md_firsts s0).2)), ((ob0 4), .inl (cA 0, (Md_manies s0).1, .inl (Md_manies s0).2)), ((ob0 5), .inl (cA 2, (Md_said s0).1, .inl (Md_said s0).2)), ((ob0 6), .inl (cA 2, (Md_marked s0).1, .inl (Md_marked s0).2)), ((ob0 7), .inl (cA 0, (Md_leaders s0).1, .inl (Md_leaders s0).2)), ((ob0 8), .inl (cA 0, (Md_trial s0).1, .inl (Md_trial s0).2)), ((ob0 9), .inl (cA 0, (Md_shown s0).1, .inl (Md_shown s0).2)), ((ob0 10), .inl (cA 0, (Md_features s0).1, .inl (Md_features s0).2)), ((ob0 11), .inl (cA 0, (Md_parts s0).1, .inl (Md_parts s0).2)), ((ob0 12), .inl (cA 0, (Md_pushedFeatures s0).1, .inl (Md_pushedFeatures s0).2)), ((ob0 13), .inl (cA 0, (Md_pushedParts s0).1, .inl (Md_pushedParts s0).2)), ((ob0 14), .inl (cA 0, (Md_touched s0).1, .inl (Md_touched s0).2)), ((ob0 15), .inl (cA 0, (Md_reached s0).1, .inl (Md_reached s0).2)), ((ob0 16), .inl (cA 0, (Md_blocks s0).1, .inl (Md_blocks s0).2)), ((ob0 17), .inl (cA 0, (Md_newBlocks s0).1, .inl (Md_newBlocks s0).2)), ((ob0 18), .inl (cA 0, (Md_places s0).1, .inl (Md_places s0).2)), ((ad0 0), .inl (cA 0, (Md_written s0).1, .inl (Md_written s0).2)), ((ad0 1), .inl (cA 0, (Md_other s0).1, .inl (Md_other s0).2))]) (st' := [.int o24]) rfl rfl ?_
      refine x_if_eq F 52 d_Md_hangs_37 (by decide) (fun c29 => ?_) (fun c29 => ?_)
      · replace hm := xm_t hm c29
        refine x_iinc (v := (x5 + 1)) (lv' := [(5, .int (x5 + 1)), (0, .ref (ob0 0)), (1, .int y1), (2, .int y2), (3, .int y3), (4, .int x4)]) F d_Md_hangs_52 5 rfl rfl (by decide) rfl ?_
        refine x_goto F 22 d_Md_hangs_55 (by decide) ?_
        refine x_sub [0, 1, 2, 3, 4, 5, 6, 7, 8, 9, 10, 11, 12, 13, 14, 15, 16, 17, 18, 19, 20] (by decide) ?_ (x_lv [1, 2, 3, 4, 5, 0] ?_ (ih x4 (x5 + 1)  _ _ out k26 hm (by omega) (by omega) (fun e he ad => x_cs (by omega) (by omega) (KX e he ad)) (fun r hr ad pc lv hn hd => x_cs (by omega) (by omega) (KR r hr ad pc lv hn hd))))
        · rfl
        · rfl
      · replace hm := xm_f hm c29
        refine x_iload F d_Md_hangs_40 4 rfl ?_
        refine x_iload_n F d_Md_hangs_42 3 rfl rfl ?_
        refine x_icmp_ne F 49 d_Md_hangs_43 (by decide) (fun c30 => ?_) (fun c30 => ?_)
        · replace hm := xm_f hm c30
          refine x_iinc (v := (x4 + 1)) (lv' := [(4, .int (x4 + 1)), (0, .ref (ob0 0)), (1, .int y1), (2, .int y2), (3, .int y3), (5, .int x5)]) F d_Md_hangs_49 4 rfl rfl (by decide) rfl ?_
          refine x_iinc (v := (x5 + 1)) (lv' := [(5, .int (x5 + 1)), (4, .int (x4 + 1)), (0, .ref (ob0 0)), (1, .int y1), (2, .int y2), (3, .int y3)]) F d_Md_hangs_52 5 rfl rfl (by decide) rfl ?_
          refine x_goto F 22 d_Md_hangs_55 (by decide) ?_
          refine x_sub [0, 1, 2, 3, 4, 5, 6, 7, 8, 9, 10, 11, 12, 13, 14, 15, 16, 17, 18, 19, 20] (by decide) ?_ (x_lv [2, 3, 4, 5, 1, 0] ?_ (ih (x4 + 1) (x5 + 1)  _ _ out k26 hm (by omega) (by omega) (fun e he ad => x_cs (by omega) (by omega) (KX e he ad)) (fun r hr ad pc lv hn hd => x_cs (by omega) (by omega) (KR r hr ad pc lv hn hd))))
          · rfl
          · rfl
        · replace hm := xm_t hm c30
          refine x_iload F d_Md_hangs_46 5 rfl ?_
          replace hm := xm_p_some hm
          obtain ⟨eo, c_o, d_o⟩ := hm
          refine x_sub [0, 1, 2, 3, 4, 5, 6, 7, 8, 9, 10, 11, 12, 13, 14, 15, 16, 17, 18, 19, 20] (by decide) ?_ (x_cs (by omega) (by omega) (KR _ eo ad0 _ _ (xz_i _) d_Md_hangs_48))
          rfl
set_option maxHeartbeats 4000000 in
set_option maxRecDepth 100000 in
theorem c_Md_hangs (l : Launch) (D : va_G) (cA : Nat → ClassId) (n : Nat) (ob0 ad0 : Nat → Nat) (s0 : S_Md) (p0 : Int32) (p1 : Int32) (p2 : Int32) (out : Int32 × S_Md) (k : KC) (hm : m_Md_hangs n s0 p0 p1 p2 = some (out, k)) : XM l D cA y_Md_hangs b_Md_hangs 6 (some FieldType.int) 4 110 [.ref (ob0 0), .int p0, .int p1, .int p2] ((w_Md cA ob0 ad0  s0)) k (fun _ => some (.int (out.1))) (fun ad => (w_Md cA ob0 ad  (out.2))) := by
  refine x_met (cc := b_Md_hangs) (nL := 6) (ret := (some FieldType.int)) R_Md (by decide) (Nat.le_of_ble_eq_true rfl) rfl (fun X F I E => ?_)
  unfold m_Md_hangs at hm
  refine x_nf2 (ws' := [((ob0 0), .inr (8, [.ref (ob0 1), .ref (ob0 2), .ref (ob0 3), .ref (ob0 4), .ref (ob0 5), .ref (ob0 6), .ref (ob0 7), .ref (ob0 8), .ref (ob0 9), .int (Md_end s0), .int (Md_nodes s0), .ref (ob0 10), .ref (ob0 11), .int (Md_fields s0), .ref (ob0 12), .ref (ob0 13), .int (Md_pushed s0), .ref (ob0 14), .int (Md_touches s0), .ref (ob0 15), .ref (ob0 16), .ref (ob0 17), .ref (ob0 18), .ref (ad0 0), .ref (ad0 1), .int (Md_length s0)])), ((ob0 1), .inl (cA 1, (Md_kinds s0).1, .inl (Md_kinds s0).2)), ((ob0 2), .inl (cA 0, (Md_values s0).1, .inl (Md_values s0).2)), ((ob0 3), .inl (cA 0, (Md_firsts s0).1, .inl (Md_firsts s0).2)), ((ob0 4), .inl (cA 0, (Md_manies s0).1, .inl (Md_manies s0).2)), ((ob0 5), .inl (cA 2, (Md_said s0).1, .inl (Md_said s0).2)), ((ob0 6), .inl (cA 2, (Md_marked s0).1, .inl (Md_marked s0).2)), ((ob0 7), .inl (cA 0, (Md_leaders s0).1, .inl (Md_leaders s0).2)), ((ob0 8), .inl (cA 0, (Md_trial s0).1, .inl (Md_trial s0).2)), ((ob0 9), .inl (cA 0, (Md_shown s0).1, .inl (Md_shown s0).2)), ((ob0 10), .inl (cA 0, (Md_features s0).1, .inl (Md_features s0).2)), ((ob0 11), .inl (cA 0, (Md_parts s0).1, .inl (Md_parts s0).2)), ((ob0 12), .inl (cA 0, (Md_pushedFeatures s0).1, .inl (Md_pushedFeatures s0).2)), ((ob0 13), .inl (cA 0, (Md_pushedParts s0).1, .inl (Md_pushedParts s0).2)), ((ob0 14), .inl (cA 0, (Md_touched s0).1, .inl (Md_touched s0).2)), ((ob0 15), .inl (cA 0, (Md_reached s0).1, .inl (Md_reached s0).2)), ((ob0 16), .inl (cA 0, (Md_blocks s0).1, .inl (Md_blocks s0).2)), ((ob0 17), .inl (cA 0, (Md_newBlocks s0).1, .inl (Md_newBlocks s0).2)), ((ob0 18), .inl (cA 0, (Md_places s0).1, .inl (Md_places s0).2)), ((ad0 0), .inl (cA 0, (Md_written s0).1, .inl (Md_written s0).2)), ((ad0 1), .inl (cA 0, (Md_other s0).1, .inl (Md_other s0).2))]) (lv' := [(0, .ref (ob0 0)), (1, .int p0), (2, .int p1), (3, .int p2)]) rfl rfl ?_
  refine x_aload_n F d_Md_hangs_0 0 rfl rfl ?_
  refine x_iload_n F d_Md_hangs_1 1 rfl rfl ?_
  refine x_iload_n F d_Md_hangs_2 2 rfl rfl ?_
  replace hm := xm_b_some hm
  obtain ⟨o16, k17, k18, h19, hm, c_o16, d_o16⟩ := hm
  refine x_callV (n := 2) (C := R_Md) (wr := []) F (c_Md_ask l D cA n ob0 ad0 s0 p0 p1 o16 k17 h19) kw_790 kw_795 kw_788 kw_789 kw_47 ⟨rfl, by decide, by decide, by decide +kernel⟩ rfl (by decide) (by decide) (ci := 8) rfl rfl 0 rfl [0, 1, 2, 3, 4, 5, 6, 7, 8, 9, 10, 11, 12, 13, 14, 15, 16, 17, 18, 19, 20] [] rfl rfl (by decide) (by decide) (by decide) rfl (Nat.le_of_ble_eq_true rfl) (by omega) (by omega) d_Md_hangs_3 (fun ad20 => ?_)
  refine x_nf (ws' := [((ob0 0), .inr (8, [.ref (ob0 1), .ref (ob0 2), .ref (ob0 3), .ref (ob0 4), .ref (ob0 5), .ref (ob0 6), .ref (ob0 7), .ref (ob0 8), .ref (ob0 9), .int (Md_end (o16.2)), .int (Md_nodes (o16.2)), .ref (ob0 10), .ref (ob0 11), .int (Md_fields (o16.2)), .ref (ob0 12), .ref (ob0 13), .int (Md_pushed (o16.2)), .ref (ob0 14), .int (Md_touches (o16.2)), .ref (ob0 15), .ref (ob0 16), .ref (ob0 17), .ref (ob0 18), .ref (ad20 0), .ref (ad20 1), .int (Md_length (o16.2))])), ((ob0 1), .inl (cA 1, (Md_kinds (o16.2)).1, .inl (Md_kinds (o16.2)).2)), ((ob0 2), .inl (cA 0, (Md_values (o16.2)).1, .inl (Md_values (o16.2)).2)), ((ob0 3), .inl (cA 0, (Md_firsts (o16.2)).1, .inl (Md_firsts (o16.2)).2)), ((ob0 4), .inl (cA 0, (Md_manies (o16.2)).1, .inl (Md_manies (o16.2)).2)), ((ob0 5), .inl (cA 2, (Md_said (o16.2)).1, .inl (Md_said (o16.2)).2)), ((ob0 6), .inl (cA 2, (Md_marked (o16.2)).1, .inl (Md_marked (o16.2)).2)), ((ob0 7), .inl (cA 0, (Md_leaders (o16.2)).1, .inl (Md_leaders (o16.2)).2)), ((ob0 8), .inl (cA 0, (Md_trial (o16.2)).1, .inl (Md_trial (o16.2)).2)), ((ob0 9), .inl (cA 0, (Md_shown (o16.2)).1, .inl (Md_shown (o16.2)).2)), ((ob0 10), .inl (cA 0, (Md_features (o16.2)).1, .inl (Md_features (o16.2)).2)), ((ob0 11), .inl (cA 0, (Md_parts (o16.2)).1, .inl (Md_parts (o16.2)).2)), ((ob0 12), .inl (cA 0, (Md_pushedFeatures (o16.2)).1, .inl (Md_pushedFeatures (o16.2)).2)), ((ob0 13), .inl (cA 0, (Md_pushedParts (o16.2)).1, .inl (Md_pushedParts (o16.2)).2)), ((ob0 14), .inl (cA 0, (Md_touched (o16.2)).1, .inl (Md_touched (o16.2)).2)), ((ob0 15), .inl (cA 0, (Md_reached (o16.2)).1, .inl (Md_reached (o16.2)).2)), ((ob0 16), .inl (cA 0, (Md_blocks (o16.2)).1, .inl (Md_blocks (o16.2)).2)), ((ob0 17), .inl (cA 0, (Md_newBlocks (o16.2)).1, .inl (Md_newBlocks (o16.2)).2)), ((ob0 18), .inl (cA 0, (Md_places (o16.2)).1, .inl (Md_places (o16.2)).2)), ((ad20 0), .inl (cA 0, (Md_written (o16.2)).1, .inl (Md_written (o16.2)).2)), ((ad20 1), .inl (cA 0, (Md_other (o16.2)).1, .inl (Md_other (o16.2)).2))]) (st' := [.int (o16.1)]) rfl rfl ?_
  refine x_iconst (v := (-1 : Int32)) F d_Md_hangs_6 (by decide) ?_
  refine x_icmp_ne F 14 d_Md_hangs_7 (by decide) (fun c21 => ?_) (fun c21 => ?_)
  · replace hm := xm_f hm c21
    refine x_iconst (v := (-1 : Int32)) F d_Md_hangs_14 (by decide) ?_
    replace hm := xm_p_some hm
    obtain ⟨eo, c_o, d_o⟩ := hm
    subst eo
    refine x_sub [0, 1, 2, 3, 4, 5, 6, 7, 8, 9, 10, 11, 12, 13, 14, 15, 16, 17, 18, 19, 20] (by decide) ?_ (xe_i E ad20 (by omega) (by omega) rfl (xz_i _) d_Md_hangs_15)
    rfl
  · replace hm := xm_t hm c21
    refine x_iload_n F d_Md_hangs_10 3 rfl rfl ?_
    refine x_if_ge F 16 d_Md_hangs_11 (by decide) (fun c22 => ?_) (fun c22 => ?_)
    · replace hm := xm_t hm c22
      refine x_iconst (v := (0 : Int32)) F d_Md_hangs_16 (by decide) ?_
      refine x_istore (lv' := [(4, .int (0 : Int32)), (0, .ref (ob0 0)), (1, .int p0), (2, .int p1), (3, .int p2)]) F d_Md_hangs_17 (by decide) rfl ?_
      refine x_iconst (v := (0 : Int32)) F d_Md_hangs_19 (by decide) ?_
      refine x_istore (lv' := [(5, .int (0 : Int32)), (4, .int (0 : Int32)), (0, .ref (ob0 0)), (1, .int p0), (2, .int p1), (3, .int p2)]) F d_Md_hangs_20 (by decide) rfl ?_
      replace hm := xm_b_some hm
      obtain ⟨o31, k32, k33, h34, hm, c_o31, d_o31⟩ := hm
      refine x_sub [0, 1, 2, 3, 4, 5, 6, 7, 8, 9, 10, 11, 12, 13, 14, 15, 16, 17, 18, 19, 20] (by decide) ?_ (x_lv [2, 3, 4, 5, 1, 0] ?_ (wl_Md_hangs_22 F n ob0 p0 p1 p2 (o16.2) ad20 n (0 : Int32) (0 : Int32)  _ _ o31 k32 h34 (by omega) (by omega) (fun e36 h38 ad35 => ?_) (fun r37 h38 ad35 pc lv hn hd => ?_)))
      · rfl
      · rfl
      · subst h38
        replace hm := xm_inl hm
        refine x_nf2 (ws' := [((ob0 0), .inr (8, [.ref (ob0 1), .ref (ob0 2), .ref (ob0 3), .ref (ob0 4), .ref (ob0 5), .ref (ob0 6), .ref (ob0 7), .ref (ob0 8), .ref (ob0 9), .int (Md_end (o16.2)), .int (Md_nodes (o16.2)), .ref (ob0 10), .ref (ob0 11), .int (Md_fields (o16.2)), .ref (ob0 12), .ref (ob0 13), .int (Md_pushed (o16.2)), .ref (ob0 14), .int (Md_touches (o16.2)), .ref (ob0 15), .ref (ob0 16), .ref (ob0 17), .ref (ob0 18), .ref (ad20 0), .ref (ad20 1), .int (Md_length (o16.2))])), ((ob0 1), .inl (cA 1, (Md_kinds (o16.2)).1, .inl (Md_kinds (o16.2)).2)), ((ob0 2), .inl (cA 0, (Md_values (o16.2)).1, .inl (Md_values (o16.2)).2)), ((ob0 3), .inl (cA 0, (Md_firsts (o16.2)).1, .inl (Md_firsts (o16.2)).2)), ((ob0 4), .inl (cA 0, (Md_manies (o16.2)).1, .inl (Md_manies (o16.2)).2)), ((ob0 5), .inl (cA 2, (Md_said (o16.2)).1, .inl (Md_said (o16.2)).2)), ((ob0 6), .inl (cA 2, (Md_marked (o16.2)).1, .inl (Md_marked (o16.2)).2)), ((ob0 7), .inl (cA 0, (Md_leaders (o16.2)).1, .inl (Md_leaders (o16.2)).2)), ((ob0 8), .inl (cA 0, (Md_trial (o16.2)).1, .inl (Md_trial (o16.2)).2)), ((ob0 9), .inl (cA 0, (Md_shown (o16.2)).1, .inl (Md_shown (o16.2)).2)), ((ob0 10), .inl (cA 0, (Md_features (o16.2)).1, .inl (Md_features (o16.2)).2)), ((ob0 11), .inl (cA 0, (Md_parts (o16.2)).1, .inl (Md_parts (o16.2)).2)), ((ob0 12), .inl (cA 0, (Md_pushedFeatures (o16.2)).1, .inl (Md_pushedFeatures (o16.2)).2)), ((ob0 13), .inl (cA 0, (Md_pushedParts (o16.2)).1, .inl (Md_pushedParts (o16.2)).2)), ((ob0 14), .inl (cA 0, (Md_touched (o16.2)).1, .inl (Md_touched (o16.2)).2)), ((ob0 15), .inl (cA 0, (Md_reached (o16.2)).1, .inl (Md_reached (o16.2)).2)), ((ob0 16), .inl (cA 0, (Md_blocks (o16.2)).1, .inl (Md_blocks (o16.2)).2)), ((ob0 17), .inl (cA 0, (Md_newBlocks (o16.2)).1, .inl (Md_newBlocks (o16.2)).2)), ((ob0 18), .inl (cA 0, (Md_places (o16.2)).1, .inl (Md_places (o16.2)).2)), ((ad20 0), .inl (cA 0, (Md_written (o16.2)).1, .inl (Md_written (o16.2)).2)), ((ad20 1), .inl (cA 0, (Md_other (o16.2)).1, .inl (Md_other (o16.2)).2))]) (lv' := [(0, .ref (ob0 0)), (1, .int p0), (2, .int p1), (3, .int p2), (4, .int (e36.1)), (5, .int (e36.2))]) rfl rfl ?_
        refine x_iconst (v := (-1 : Int32)) F d_Md_hangs_58 (by decide) ?_
        replace hm := xm_p_some hm
        obtain ⟨eo, c_o, d_o⟩ := hm
        subst eo
        refine x_sub [0, 1, 2, 3, 4, 5, 6, 7, 8, 9, 10, 11, 12, 13, 14, 15, 16, 17, 18, 19, 20] (by decide) ?_ (xe_i E ad20 (by omega) (by omega) rfl (xz_i _) d_Md_hangs_59)
        rfl
      · subst h38
        replace hm := xm_inr hm
        replace hm := xm_p_some hm
        obtain ⟨eo, c_o, d_o⟩ := hm
        subst eo
        exact xe_i E ad35 (by omega) (by omega) rfl hn hd
    · replace hm := xm_f hm c22
      refine x_iconst (v := (-1 : Int32)) F d_Md_hangs_14 (by decide) ?_
      replace hm := xm_p_some hm
      obtain ⟨eo, c_o, d_o⟩ := hm
      subst eo
      refine x_sub [0, 1, 2, 3, 4, 5, 6, 7, 8, 9, 10, 11, 12, 13, 14, 15, 16, 17, 18, 19, 20] (by decide) ?_ (xe_i E ad20 (by omega) (by omega) rfl (xz_i _) d_Md_hangs_15)
      rfl

noncomputable def m_Md_need (n : Nat) (s0 : S_Md) (p0 : Int32) : MO (Int32 × S_Md) := (xm_b (m_Md_has n s0 p0) (fun o16 => (if o16 = 0 then (xm_p ((0 : Int32), s0)) else (xm_b (m_Md_isNeeded n s0 p0) (fun o22 => (if o22 = 0 then (xm_wr (Md_said s0) p0 (vp_nar .boolean (1 : Int32)) (fun a28 => (xm_rd (Md_leaders s0) p0 (fun v29 => (xm_wr (Md_touched s0) (0 : Int32) v29 (fun a30 => (xm_p ((1 : Int32), ((Md_kinds s0), (Md_values s0), (Md_firsts s0), (Md_manies s0), a28, (Md_marked s0), (Md_leaders s0), (Md_trial s0), (Md_shown s0), (Md_end s0), (Md_nodes s0), (Md_features s0), (Md_parts s0), (Md_fields s0), (Md_pushedFeatures s0), (Md_pushedParts s0), (Md_pushed s0), a30, (1 : Int32), (Md_reached s0), (Md_blocks s0), (Md_newBlocks s0), (Md_places s0), (Md_written s0), (Md_other s0), (Md_length s0)))))))))) else (xm_p ((0 : Int32), s0))))))))
set_option maxHeartbeats 4000000 in
set_option maxRecDepth 100000 in
theorem c_Md_need (l : Launch) (D : va_G) (cA : Nat → ClassId) (n : Nat) (ob0 ad0 : Nat → Nat) (s0 : S_Md) (p0 : Int32) (out : Int32 × S_Md) (k : KC) (hm : m_Md_need n s0 p0 = some (out, k)) : XM l D cA y_Md_need b_Md_need 2 (some FieldType.boolean) 2 45 [.ref (ob0 0), .int p0] ((w_Md cA ob0 ad0  s0)) k (fun _ => some (.int (out.1))) (fun ad => (w_Md cA ob0 ad  (out.2))) := by
  refine x_met (cc := b_Md_need) (nL := 2) (ret := (some FieldType.boolean)) R_Md (by decide) (Nat.le_of_ble_eq_true rfl) rfl (fun X F I E => ?_)
  unfold m_Md_need at hm
  refine x_nf2 (ws' := [((ob0 0), .inr (8, [.ref (ob0 1), .ref (ob0 2), .ref (ob0 3), .ref (ob0 4), .ref (ob0 5), .ref (ob0 6), .ref (ob0 7), .ref (ob0 8), .ref (ob0 9), .int (Md_end s0), .int (Md_nodes s0), .ref (ob0 10), .ref (ob0 11), .int (Md_fields s0), .ref (ob0 12), .ref (ob0 13), .int (Md_pushed s0), .ref (ob0 14), .int (Md_touches s0), .ref (ob0 15), .ref (ob0 16), .ref (ob0 17), .ref (ob0 18), .ref (ad0 0), .ref (ad0 1), .int (Md_length s0)])), ((ob0 1), .inl (cA 1, (Md_kinds s0).1, .inl (Md_kinds s0).2)), ((ob0 2), .inl (cA 0, (Md_values s0).1, .inl (Md_values s0).2)), ((ob0 3), .inl (cA 0, (Md_firsts s0).1, .inl (Md_firsts s0).2)), ((ob0 4), .inl (cA 0, (Md_manies s0).1, .inl (Md_manies s0).2)), ((ob0 5), .inl (cA 2, (Md_said s0).1, .inl (Md_said s0).2)), ((ob0 6), .inl (cA 2, (Md_marked s0).1, .inl (Md_marked s0).2)), ((ob0 7), .inl (cA 0, (Md_leaders s0).1, .inl (Md_leaders s0).2)), ((ob0 8), .inl (cA 0, (Md_trial s0).1, .inl (Md_trial s0).2)), ((ob0 9), .inl (cA 0, (Md_shown s0).1, .inl (Md_shown s0).2)), ((ob0 10), .inl (cA 0, (Md_features s0).1, .inl (Md_features s0).2)), ((ob0 11), .inl (cA 0, (Md_parts s0).1, .inl (Md_parts s0).2)), ((ob0 12), .inl (cA 0, (Md_pushedFeatures s0).1, .inl (Md_pushedFeatures s0).2)), ((ob0 13), .inl (cA 0, (Md_pushedParts s0).1, .inl (Md_pushedParts s0).2)), ((ob0 14), .inl (cA 0, (Md_touched s0).1, .inl (Md_touched s0).2)), ((ob0 15), .inl (cA 0, (Md_reached s0).1, .inl (Md_reached s0).2)), ((ob0 16), .inl (cA 0, (Md_blocks s0).1, .inl (Md_blocks s0).2)), ((ob0 17), .inl (cA 0, (Md_newBlocks s0).1, .inl (Md_newBlocks s0).2)), ((ob0 18), .inl (cA 0, (Md_places s0).1, .inl (Md_places s0).2)), ((ad0 0), .inl (cA 0, (Md_written s0).1, .inl (Md_written s0).2)), ((ad0 1), .inl (cA 0, (Md_other s0).1, .inl (Md_other s0).2))]) (lv' := [(0, .ref (ob0 0)), (1, .int p0)]) rfl rfl ?_
  refine x_aload_n F d_Md_need_0 0 rfl rfl ?_
  refine x_iload_n F d_Md_need_1 1 rfl rfl ?_
  replace hm := xm_b_some hm
  obtain ⟨o16, k17, k18, h19, hm, c_o16, d_o16⟩ := hm
  refine x_callV (n := 1) (C := R_Md) (wr := []) F (c_Md_has l D cA n ob0 ad0 s0 p0 o16 k17 h19) kw_742 kw_739 kw_741 kw_20 kw_47 ⟨rfl, by decide, by decide, by decide +kernel⟩ rfl (by decide) (by decide) (ci := 8) rfl rfl 0 rfl [0, 1, 2, 3, 4, 5, 6, 7, 8, 9, 10, 11, 12, 13, 14, 15, 16, 17, 18, 19, 20] [] rfl rfl (by decide) (by decide) (by decide) rfl (Nat.le_of_ble_eq_true rfl) (by omega) (by omega) d_Md_need_2 (fun ad20 => ?_)
  refine x_nf (ws' := [((ob0 0), .inr (8, [.ref (ob0 1), .ref (ob0 2), .ref (ob0 3), .ref (ob0 4), .ref (ob0 5), .ref (ob0 6), .ref (ob0 7), .ref (ob0 8), .ref (ob0 9), .int (Md_end s0), .int (Md_nodes s0), .ref (ob0 10), .ref (ob0 11), .int (Md_fields s0), .ref (ob0 12), .ref (ob0 13), .int (Md_pushed s0), .ref (ob0 14), .int (Md_touches s0), .ref (ob0 15), .ref (ob0 16), .ref (ob0 17), .ref (ob0 18), .ref (ad0 0), .ref (ad0 1), .int (Md_length s0)])), ((ob0 1), .inl (cA 1, (Md_kinds s0).1, .inl (Md_kinds s0).2)), ((ob0 2), .inl (cA 0, (Md_values s0).1, .inl (Md_values s0).2)), ((ob0 3), .inl (cA 0, (Md_firsts s0).1, .inl (Md_firsts s0).2)), ((ob0 4), .inl (cA 0, (Md_manies s0).1, .inl (Md_manies s0).2)), ((ob0 5), .inl (cA 2, (Md_said s0).1, .inl (Md_said s0).2)), ((ob0 6), .inl (cA 2, (Md_marked s0).1, .inl (Md_marked s0).2)), ((ob0 7), .inl (cA 0, (Md_leaders s0).1, .inl (Md_leaders s0).2)), ((ob0 8), .inl (cA 0, (Md_trial s0).1, .inl (Md_trial s0).2)), ((ob0 9), .inl (cA 0, (Md_shown s0).1, .inl (Md_shown s0).2)), ((ob0 10), .inl (cA 0, (Md_features s0).1, .inl (Md_features s0).2)), ((ob0 11), .inl (cA 0, (Md_parts s0).1, .inl (Md_parts s0).2)), ((ob0 12), .inl (cA 0, (Md_pushedFeatures s0).1, .inl (Md_pushedFeatures s0).2)), ((ob0 13), .inl (cA 0, (Md_pushedParts s0).1, .inl (Md_pushedParts s0).2)), ((ob0 14), .inl (cA 0, (Md_touched s0).1, .inl (Md_touched s0).2)), ((ob0 15), .inl (cA 0, (Md_reached s0).1, .inl (Md_reached s0).2)), ((ob0 16), .inl (cA 0, (Md_blocks s0).1, .inl (Md_blocks s0).2)), ((ob0 17), .inl (cA 0, (Md_newBlocks s0).1, .inl (Md_newBlocks s0).2)), ((ob0 18), .inl (cA 0, (Md_places s0).1, .inl (Md_places s0).2)), ((ad0 0), .inl (cA 0, (Md_written s0).1, .inl (Md_written s0).2)), ((ad0 1), .inl (cA 0, (Md_other s0).1, .inl (Md_other s0).2))]) (st' := [.int o16]) rfl rfl ?_
  refine x_if_eq F 16 d_Md_need_5 (by decide) (fun c21 => ?_) (fun c21 => ?_)
  · replace hm := xm_t hm c21
    refine x_iconst (v := (0 : Int32)) F d_Md_need_16 (by decide) ?_
    replace hm := xm_p_some hm
    obtain ⟨eo, c_o, d_o⟩ := hm
    subst eo
    refine x_sub [0, 1, 2, 3, 4, 5, 6, 7, 8, 9, 10, 11, 12, 13, 14, 15, 16, 17, 18, 19, 20] (by decide) ?_ (xe_i E ad0 (by omega) (by omega) rfl xz_0 d_Md_need_17)
    rfl
  · replace hm := xm_f hm c21
    refine x_aload_n F d_Md_need_8 0 rfl rfl ?_
    refine x_iload_n F d_Md_need_9 1 rfl rfl ?_
    replace hm := xm_b_some hm
    obtain ⟨o22, k23, k24, h25, hm, c_o22, d_o22⟩ := hm
    refine x_callV (n := 1) (C := R_Md) (wr := []) F (c_Md_isNeeded l D cA n ob0 ad0 s0 p0 o22 k23 h25) kw_803 kw_800 kw_802 kw_28 kw_47 ⟨rfl, by decide, by decide, by decide +kernel⟩ rfl (by decide) (by decide) (ci := 8) rfl rfl 0 rfl [0, 1, 2, 3, 4, 5, 6, 7, 8, 9, 10, 11, 12, 13, 14, 15, 16, 17, 18, 19, 20] [] rfl rfl (by decide) (by decide) (by decide) rfl (Nat.le_of_ble_eq_true rfl) (by omega) (by omega) d_Md_need_10 (fun ad26 => ?_)
    refine x_nf (ws' := [((ob0 0), .inr (8, [.ref (ob0 1), .ref (ob0 2), .ref (ob0 3), .ref (ob0 4), .ref (ob0 5), .ref (ob0 6), .ref (ob0 7), .ref (ob0 8), .ref (ob0 9), .int (Md_end s0), .int (Md_nodes s0), .ref (ob0 10), .ref (ob0 11), .int (Md_fields s0), .ref (ob0 12), .ref (ob0 13), .int (Md_pushed s0), .ref (ob0 14), .int (Md_touches s0), .ref (ob0 15), .ref (ob0 16), .ref (ob0 17), .ref (ob0 18), .ref (ad0 0), .ref (ad0 1), .int (Md_length s0)])), ((ob0 1), .inl (cA 1, (Md_kinds s0).1, .inl (Md_kinds s0).2)), ((ob0 2), .inl (cA 0, (Md_values s0).1, .inl (Md_values s0).2)), ((ob0 3), .inl (cA 0, (Md_firsts s0).1, .inl (Md_firsts s0).2)), ((ob0 4), .inl (cA 0, (Md_manies s0).1, .inl (Md_manies s0).2)), ((ob0 5), .inl (cA 2, (Md_said s0).1, .inl (Md_said s0).2)), ((ob0 6), .inl (cA 2, (Md_marked s0).1, .inl (Md_marked s0).2)), ((ob0 7), .inl (cA 0, (Md_leaders s0).1, .inl (Md_leaders s0).2)), ((ob0 8), .inl (cA 0, (Md_trial s0).1, .inl (Md_trial s0).2)), ((ob0 9), .inl (cA 0, (Md_shown s0).1, .inl (Md_shown s0).2)), ((ob0 10), .inl (cA 0, (Md_features s0).1, .inl (Md_features s0).2)), ((ob0 11), .inl (cA 0, (Md_parts s0).1, .inl (Md_parts s0).2)), ((ob0 12), .inl (cA 0, (Md_pushedFeatures s0).1, .inl (Md_pushedFeatures s0).2)), ((ob0 13), .inl (cA 0, (Md_pushedParts s0).1, .inl (Md_pushedParts s0).2)), ((ob0 14), .inl (cA 0, (Md_touched s0).1, .inl (Md_touched s0).2)), ((ob0 15), .inl (cA 0, (Md_reached s0).1, .inl (Md_reached s0).2)), ((ob0 16), .inl (cA 0, (Md_blocks s0).1, .inl (Md_blocks s0).2)), ((ob0 17), .inl (cA 0, (Md_newBlocks s0).1, .inl (Md_newBlocks s0).2)), ((ob0 18), .inl (cA 0, (Md_places s0).1, .inl (Md_places s0).2)), ((ad0 0), .inl (cA 0, (Md_written s0).1, .inl (Md_written s0).2)), ((ad0 1), .inl (cA 0, (Md_other s0).1, .inl (Md_other s0).2))]) (st' := [.int o22]) rfl rfl ?_
    refine x_if_eq F 18 d_Md_need_13 (by decide) (fun c27 => ?_) (fun c27 => ?_)
    · replace hm := xm_t hm c27
      refine x_aload_n F d_Md_need_18 0 rfl rfl ?_
      refine x_get F ck_Md hin_Md 0 4 rfl (by decide) kw_638 rfl rfl d_Md_need_19 ?_
      refine x_iload_n F d_Md_need_22 1 rfl rfl ?_
      refine x_iconst (v := (1 : Int32)) F d_Md_need_23 (by decide) ?_
      replace hm := xm_wr_some hm
      obtain ⟨a28, e_a28, b_a28, hm⟩ := hm
      refine x_zast (x := (Md_said s0)) (x' := a28) (ws' := [((ob0 0), .inr (8, [.ref (ob0 1), .ref (ob0 2), .ref (ob0 3), .ref (ob0 4), .ref (ob0 5), .ref (ob0 6), .ref (ob0 7), .ref (ob0 8), .ref (ob0 9), .int (Md_end s0), .int (Md_nodes s0), .ref (ob0 10), .ref (ob0 11), .int (Md_fields s0), .ref (ob0 12), .ref (ob0 13), .int (Md_pushed s0), .ref (ob0 14), .int (Md_touches s0), .ref (ob0 15), .ref (ob0 16), .ref (ob0 17), .ref (ob0 18), .ref (ad0 0), .ref (ad0 1), .int (Md_length s0)])), ((ob0 1), .inl (cA 1, (Md_kinds s0).1, .inl (Md_kinds s0).2)), ((ob0 2), .inl (cA 0, (Md_values s0).1, .inl (Md_values s0).2)), ((ob0 3), .inl (cA 0, (Md_firsts s0).1, .inl (Md_firsts s0).2)), ((ob0 4), .inl (cA 0, (Md_manies s0).1, .inl (Md_manies s0).2)), ((ob0 5), .inl (cA 2, a28.1, .inl a28.2)), ((ob0 6), .inl (cA 2, (Md_marked s0).1, .inl (Md_marked s0).2)), ((ob0 7), .inl (cA 0, (Md_leaders s0).1, .inl (Md_leaders s0).2)), ((ob0 8), .inl (cA 0, (Md_trial s0).1, .inl (Md_trial s0).2)), ((ob0 9), .inl (cA 0, (Md_shown s0).1, .inl (Md_shown s0).2)), ((ob0 10), .inl (cA 0, (Md_features s0).1, .inl (Md_features s0).2)), ((ob0 11), .inl (cA 0, (Md_parts s0).1, .inl (Md_parts s0).2)), ((ob0 12), .inl (cA 0, (Md_pushedFeatures s0).1, .inl (Md_pushedFeatures s0).2)), ((ob0 13), .inl (cA 0, (Md_pushedParts s0).1, .inl (Md_pushedParts s0).2)), ((ob0 14), .inl (cA 0, (Md_touched s0).1, .inl (Md_touched s0).2)), ((ob0 15), .inl (cA 0, (Md_reached s0).1, .inl (Md_reached s0).2)), ((ob0 16), .inl (cA 0, (Md_blocks s0).1, .inl (Md_blocks s0).2)), ((ob0 17), .inl (cA 0, (Md_newBlocks s0).1, .inl (Md_newBlocks s0).2)), ((ob0 18), .inl (cA 0, (Md_places s0).1, .inl (Md_places s0).2)), ((ad0 0), .inl (cA 0, (Md_written s0).1, .inl (Md_written s0).2)), ((ad0 1), .inl (cA 0, (Md_other s0).1, .inl (Md_other s0).2))]) F 5 rfl e_a28 b_a28 rfl d_Md_need_24 ?_
      refine x_aload_n F d_Md_need_25 0 rfl rfl ?_
      refine x_get F ck_Md hin_Md 0 17 rfl (by decide) kw_651 rfl rfl d_Md_need_26 ?_
      refine x_iconst (v := (0 : Int32)) F d_Md_need_29 (by decide) ?_
      refine x_aload_n F d_Md_need_30 0 rfl rfl ?_
      refine x_get F ck_Md hin_Md 0 6 rfl (by decide) kw_640 rfl rfl d_Md_need_31 ?_
      refine x_iload_n F d_Md_need_34 1 rfl rfl ?_
      replace hm := xm_rd_some hm
      obtain ⟨v29, e_v29, b_v29, hm⟩ := hm
      refine x_iald (x := (Md_leaders s0)) F 7 rfl e_v29 b_v29 d_Md_need_35 ?_
      replace hm := xm_wr_some hm
      obtain ⟨a30, e_a30, b_a30, hm⟩ := hm
      refine x_iast (x := (Md_touched s0)) (x' := a30) (ws' := [((ob0 0), .inr (8, [.ref (ob0 1), .ref (ob0 2), .ref (ob0 3), .ref (ob0 4), .ref (ob0 5), .ref (ob0 6), .ref (ob0 7), .ref (ob0 8), .ref (ob0 9), .int (Md_end s0), .int (Md_nodes s0), .ref (ob0 10), .ref (ob0 11), .int (Md_fields s0), .ref (ob0 12), .ref (ob0 13), .int (Md_pushed s0), .ref (ob0 14), .int (Md_touches s0), .ref (ob0 15), .ref (ob0 16), .ref (ob0 17), .ref (ob0 18), .ref (ad0 0), .ref (ad0 1), .int (Md_length s0)])), ((ob0 1), .inl (cA 1, (Md_kinds s0).1, .inl (Md_kinds s0).2)), ((ob0 2), .inl (cA 0, (Md_values s0).1, .inl (Md_values s0).2)), ((ob0 3), .inl (cA 0, (Md_firsts s0).1, .inl (Md_firsts s0).2)), ((ob0 4), .inl (cA 0, (Md_manies s0).1, .inl (Md_manies s0).2)), ((ob0 5), .inl (cA 2, a28.1, .inl a28.2)), ((ob0 6), .inl (cA 2, (Md_marked s0).1, .inl (Md_marked s0).2)), ((ob0 7), .inl (cA 0, (Md_leaders s0).1, .inl (Md_leaders s0).2)), ((ob0 8), .inl (cA 0, (Md_trial s0).1, .inl (Md_trial s0).2)), ((ob0 9), .inl (cA 0, (Md_shown s0).1, .inl (Md_shown s0).2)), ((ob0 10), .inl (cA 0, (Md_features s0).1, .inl (Md_features s0).2)), ((ob0 11), .inl (cA 0, (Md_parts s0).1, .inl (Md_parts s0).2)), ((ob0 12), .inl (cA 0, (Md_pushedFeatures s0).1, .inl (Md_pushedFeatures s0).2)), ((ob0 13), .inl (cA 0, (Md_pushedParts s0).1, .inl (Md_pushedParts s0).2)), ((ob0 14), .inl (cA 0, a30.1, .inl a30.2)), ((ob0 15), .inl (cA 0, (Md_reached s0).1, .inl (Md_reached s0).2)), ((ob0 16), .inl (cA 0, (Md_blocks s0).1, .inl (Md_blocks s0).2)), ((ob0 17), .inl (cA 0, (Md_newBlocks s0).1, .inl (Md_newBlocks s0).2)), ((ob0 18), .inl (cA 0, (Md_places s0).1, .inl (Md_places s0).2)), ((ad0 0), .inl (cA 0, (Md_written s0).1, .inl (Md_written s0).2)), ((ad0 1), .inl (cA 0, (Md_other s0).1, .inl (Md_other s0).2))]) F 14 rfl e_a30 b_a30 rfl d_Md_need_36 ?_
      refine x_aload_n F d_Md_need_37 0 rfl rfl ?_
      refine x_iconst (v := (1 : Int32)) F d_Md_need_38 (by decide) ?_
      refine x_put (ws' := [((ob0 0), .inr (8, [.ref (ob0 1), .ref (ob0 2), .ref (ob0 3), .ref (ob0 4), .ref (ob0 5), .ref (ob0 6), .ref (ob0 7), .ref (ob0 8), .ref (ob0 9), .int (Md_end s0), .int (Md_nodes s0), .ref (ob0 10), .ref (ob0 11), .int (Md_fields s0), .ref (ob0 12), .ref (ob0 13), .int (Md_pushed s0), .ref (ob0 14), .int (1 : Int32), .ref (ob0 15), .ref (ob0 16), .ref (ob0 17), .ref (ob0 18), .ref (ad0 0), .ref (ad0 1), .int (Md_length s0)])), ((ob0 1), .inl (cA 1, (Md_kinds s0).1, .inl (Md_kinds s0).2)), ((ob0 2), .inl (cA 0, (Md_values s0).1, .inl (Md_values s0).2)), ((ob0 3), .inl (cA 0, (Md_firsts s0).1, .inl (Md_firsts s0).2)), ((ob0 4), .inl (cA 0, (Md_manies s0).1, .inl (Md_manies s0).2)), ((ob0 5), .inl (cA 2, a28.1, .inl a28.2)), ((ob0 6), .inl (cA 2, (Md_marked s0).1, .inl (Md_marked s0).2)), ((ob0 7), .inl (cA 0, (Md_leaders s0).1, .inl (Md_leaders s0).2)), ((ob0 8), .inl (cA 0, (Md_trial s0).1, .inl (Md_trial s0).2)), ((ob0 9), .inl (cA 0, (Md_shown s0).1, .inl (Md_shown s0).2)), ((ob0 10), .inl (cA 0, (Md_features s0).1, .inl (Md_features s0).2)), ((ob0 11), .inl (cA 0, (Md_parts s0).1, .inl (Md_parts s0).2)), ((ob0 12), .inl (cA 0, (Md_pushedFeatures s0).1, .inl (Md_pushedFeatures s0).2)), ((ob0 13), .inl (cA 0, (Md_pushedParts s0).1, .inl (Md_pushedParts s0).2)), ((ob0 14), .inl (cA 0, a30.1, .inl a30.2)), ((ob0 15), .inl (cA 0, (Md_reached s0).1, .inl (Md_reached s0).2)), ((ob0 16), .inl (cA 0, (Md_blocks s0).1, .inl (Md_blocks s0).2)), ((ob0 17), .inl (cA 0, (Md_newBlocks s0).1, .inl (Md_newBlocks s0).2)), ((ob0 18), .inl (cA 0, (Md_places s0).1, .inl (Md_places s0).2)), ((ad0 0), .inl (cA 0, (Md_written s0).1, .inl (Md_written s0).2)), ((ad0 1), .inl (cA 0, (Md_other s0).1, .inl (Md_other s0).2))]) F ck_Md hin_Md 0 18 rfl (by decide) kw_652 rfl rfl rfl rfl (Nat.le_of_ble_eq_true rfl) rfl d_Md_need_39 ?_
      refine x_iconst (v := (1 : Int32)) F d_Md_need_42 (by decide) ?_
      replace hm := xm_p_some hm
      obtain ⟨eo, c_o, d_o⟩ := hm
      subst eo
      refine x_sub [0, 1, 2, 3, 4, 5, 6, 7, 8, 9, 10, 11, 12, 13, 14, 15, 16, 17, 18, 19, 20] (by decide) ?_ (xe_i E ad0 (by omega) (by omega) rfl xz_1 d_Md_need_43)
      rfl
    · replace hm := xm_f hm c27
      refine x_iconst (v := (0 : Int32)) F d_Md_need_16 (by decide) ?_
      replace hm := xm_p_some hm
      obtain ⟨eo, c_o, d_o⟩ := hm
      subst eo
      refine x_sub [0, 1, 2, 3, 4, 5, 6, 7, 8, 9, 10, 11, 12, 13, 14, 15, 16, 17, 18, 19, 20] (by decide) ?_ (xe_i E ad0 (by omega) (by omega) rfl xz_0 d_Md_need_17)
      rfl

noncomputable def m_Md_touched (n : Nat) (s0 : S_Md) (p0 : Int32) : MO (Int32) := (if p0 < 0 then (xm_p (-1 : Int32)) else (if p0 < (Md_touches s0) then (xm_rd (Md_touched s0) p0 (fun v6 => (xm_p v6))) else (xm_p (-1 : Int32))))
set_option maxHeartbeats 4000000 in
set_option maxRecDepth 100000 in
theorem c_Md_touched (l : Launch) (D : va_G) (cA : Nat → ClassId) (n : Nat) (ob0 ad0 : Nat → Nat) (s0 : S_Md) (p0 : Int32) (out : Int32) (k : KC) (hm : m_Md_touched n s0 p0 = some (out, k)) : XM l D cA y_Md_touched b_Md_touched 2 (some FieldType.int) 0 0 [.ref (ob0 0), .int p0] ((w_Md cA ob0 ad0  s0)) k (fun _ => some (.int out)) (fun ad => (w_Md cA ob0 ad0  s0)) := by
  refine x_met (cc := b_Md_touched) (nL := 2) (ret := (some FieldType.int)) R_Md (by decide) (Nat.le_of_ble_eq_true rfl) rfl (fun X F I E => ?_)
  unfold m_Md_touched at hm
  refine x_nf2 (ws' := [((ob0 0), .inr (8, [.ref (ob0 1), .ref (ob0 2), .ref (ob0 3), .ref (ob0 4), .ref (ob0 5), .ref (ob0 6), .ref (ob0 7), .ref (ob0 8), .ref (ob0 9), .int (Md_end s0), .int (Md_nodes s0), .ref (ob0 10), .ref (ob0 11), .int (Md_fields s0), .ref (ob0 12), .ref (ob0 13), .int (Md_pushed s0), .ref (ob0 14), .int (Md_touches s0), .ref (ob0 15), .ref (ob0 16), .ref (ob0 17), .ref (ob0 18), .ref (ad0 0), .ref (ad0 1), .int (Md_length s0)])), ((ob0 1), .inl (cA 1, (Md_kinds s0).1, .inl (Md_kinds s0).2)), ((ob0 2), .inl (cA 0, (Md_values s0).1, .inl (Md_values s0).2)), ((ob0 3), .inl (cA 0, (Md_firsts s0).1, .inl (Md_firsts s0).2)), ((ob0 4), .inl (cA 0, (Md_manies s0).1, .inl (Md_manies s0).2)), ((ob0 5), .inl (cA 2, (Md_said s0).1, .inl (Md_said s0).2)), ((ob0 6), .inl (cA 2, (Md_marked s0).1, .inl (Md_marked s0).2)), ((ob0 7), .inl (cA 0, (Md_leaders s0).1, .inl (Md_leaders s0).2)), ((ob0 8), .inl (cA 0, (Md_trial s0).1, .inl (Md_trial s0).2)), ((ob0 9), .inl (cA 0, (Md_shown s0).1, .inl (Md_shown s0).2)), ((ob0 10), .inl (cA 0, (Md_features s0).1, .inl (Md_features s0).2)), ((ob0 11), .inl (cA 0, (Md_parts s0).1, .inl (Md_parts s0).2)), ((ob0 12), .inl (cA 0, (Md_pushedFeatures s0).1, .inl (Md_pushedFeatures s0).2)), ((ob0 13), .inl (cA 0, (Md_pushedParts s0).1, .inl (Md_pushedParts s0).2)), ((ob0 14), .inl (cA 0, (Md_touched s0).1, .inl (Md_touched s0).2)), ((ob0 15), .inl (cA 0, (Md_reached s0).1, .inl (Md_reached s0).2)), ((ob0 16), .inl (cA 0, (Md_blocks s0).1, .inl (Md_blocks s0).2)), ((ob0 17), .inl (cA 0, (Md_newBlocks s0).1, .inl (Md_newBlocks s0).2)), ((ob0 18), .inl (cA 0, (Md_places s0).1, .inl (Md_places s0).2)), ((ad0 0), .inl (cA 0, (Md_written s0).1, .inl (Md_written s0).2)), ((ad0 1), .inl (cA 0, (Md_other s0).1, .inl (Md_other s0).2))]) (lv' := [(0, .ref (ob0 0)), (1, .int p0)]) rfl rfl ?_
  refine x_iload_n F d_Md_touched_0 1 rfl rfl ?_
  refine x_if_lt F 12 d_Md_touched_1 (by decide) (fun c4 => ?_) (fun c4 => ?_)
  · replace hm := xm_t hm c4
    refine x_iconst (v := (-1 : Int32)) F d_Md_touched_12 (by decide) ?_
    refine x_goto F 22 d_Md_touched_13 (by decide) ?_
    replace hm := xm_p_some hm
    obtain ⟨eo, c_o, d_o⟩ := hm
    subst eo
    refine x_sub [0, 1, 2, 3, 4, 5, 6, 7, 8, 9, 10, 11, 12, 13, 14, 15, 16, 17, 18, 19, 20] (by decide) ?_ (xe_i E (fun _ => 0) (by omega) (by omega) rfl (xz_i _) d_Md_touched_22)
    rfl
  · replace hm := xm_f hm c4
    refine x_iload_n F d_Md_touched_4 1 rfl rfl ?_
    refine x_aload_n F d_Md_touched_5 0 rfl rfl ?_
    refine x_get F ck_Md hin_Md 0 18 rfl (by decide) kw_652 rfl rfl d_Md_touched_6 ?_
    refine x_icmp_lt F 16 d_Md_touched_9 (by decide) (fun c5 => ?_) (fun c5 => ?_)
    · replace hm := xm_t hm c5
      refine x_aload_n F d_Md_touched_16 0 rfl rfl ?_
      refine x_get F ck_Md hin_Md 0 17 rfl (by decide) kw_651 rfl rfl d_Md_touched_17 ?_
      refine x_iload_n F d_Md_touched_20 1 rfl rfl ?_
      replace hm := xm_rd_some hm
      obtain ⟨v6, e_v6, b_v6, hm⟩ := hm
      refine x_iald (x := (Md_touched s0)) F 14 rfl e_v6 b_v6 d_Md_touched_21 ?_
      replace hm := xm_p_some hm
      obtain ⟨eo, c_o, d_o⟩ := hm
      subst eo
      refine x_sub [0, 1, 2, 3, 4, 5, 6, 7, 8, 9, 10, 11, 12, 13, 14, 15, 16, 17, 18, 19, 20] (by decide) ?_ (xe_i E (fun _ => 0) (by omega) (by omega) rfl (xz_i _) d_Md_touched_22)
      rfl
    · replace hm := xm_f hm c5
      refine x_iconst (v := (-1 : Int32)) F d_Md_touched_12 (by decide) ?_
      refine x_goto F 22 d_Md_touched_13 (by decide) ?_
      replace hm := xm_p_some hm
      obtain ⟨eo, c_o, d_o⟩ := hm
      subst eo
      refine x_sub [0, 1, 2, 3, 4, 5, 6, 7, 8, 9, 10, 11, 12, 13, 14, 15, 16, 17, 18, 19, 20] (by decide) ?_ (xe_i E (fun _ => 0) (by omega) (by omega) rfl (xz_i _) d_Md_touched_22)
      rfl

noncomputable def L_Md_at_16 (y1 : Int32) (y2 : Int64) (s0 : S_Md) (n i : Nat) : Int32 → Int64 → MO ((Int32 × Int64) ⊕ (Int32)) := Nat.rec (motive := fun _ => Int32 → Int64 → MO ((Int32 × Int64) ⊕ (Int32))) (fun _ _ => none) (fun _ ih x4 x5 => (if (lg_cmp (x5 &&& (255 : Int64)) (0 : Int64)) = 0 then (xm_p (Sum.inl (x4, x5))) else (xm_b (m_Md_meant n s0 x4) (fun o26 => (xm_rd (Md_kinds s0) o26 (fun v31 => (if v31 < (3 : Int32) then (xm_p (Sum.inr (-1 : Int32))) else (xm_rd (Md_manies s0) o26 (fun v33 => (if ((x5 &&& (255 : Int64))).toInt32 ≤ v33 then (xm_rd (Md_firsts s0) o26 (fun v35 => (xm_rd (Md_parts s0) ((v35 + ((x5 &&& (255 : Int64))).toInt32) - (1 : Int32)) (fun v36 => (ih v36 (x5.toUInt64 >>> ((8 : Int32).toInt64.toUInt64 &&& Int64.toUInt64 63)).toInt64))))) else (xm_p (Sum.inr (-1 : Int32))))))))))))) i
theorem L_Md_at_16_s (y1 : Int32) (y2 : Int64) (s0 : S_Md) (n i : Nat) (x4 : Int32) (x5 : Int64) : L_Md_at_16 y1 y2 s0 n (i + 1) x4 x5 = (if (lg_cmp (x5 &&& (255 : Int64)) (0 : Int64)) = 0 then (xm_p (Sum.inl (x4, x5))) else (xm_b (m_Md_meant n s0 x4) (fun o26 => (xm_rd (Md_kinds s0) o26 (fun v31 => (if v31 < (3 : Int32) then (xm_p (Sum.inr (-1 : Int32))) else (xm_rd (Md_manies s0) o26 (fun v33 => (if ((x5 &&& (255 : Int64))).toInt32 ≤ v33 then (xm_rd (Md_firsts s0) o26 (fun v35 => (xm_rd (Md_parts s0) ((v35 + ((x5 &&& (255 : Int64))).toInt32) - (1 : Int32)) (fun v36 => (L_Md_at_16 y1 y2 s0 n i v36 (x5.toUInt64 >>> ((8 : Int32).toInt64.toUInt64 &&& Int64.toUInt64 63)).toInt64))))) else (xm_p (Sum.inr (-1 : Int32)))))))))))) := rfl
noncomputable def m_Md_at (n : Nat) (s0 : S_Md) (p0 : Int32) (p1 : Int64) : MO (Int32) := (xm_b (m_Md_has n s0 p0) (fun o19 => (if o19 = 0 then (xm_p (-1 : Int32)) else (xm_b (L_Md_at_16 p0 p1 s0 n n p0 p1) (fun o37 => Sum.elim (fun e42 => (xm_p (e42.1))) (fun z => xm_p z) o37)))))
set_option maxHeartbeats 4000000 in
set_option maxRecDepth 100000 in
theorem wl_Md_at_16 {X : XT} {l : Launch} {D : va_G} {cA : Nat → ClassId} {mc ms : Nat} (F : XF X l D cA b_Md_at 9 (some FieldType.int) R_Md 1 22 mc ms) (n : Nat) (ob0 : Nat → Nat) (y1 : Int32) (y2 : Int64) (s0 : S_Md)  (ad0 : Nat → Nat) : ∀ (i : Nat) (x4 : Int32) (x5 : Int64)  (nc ns : Nat) (out : (Int32 × Int64) ⊕ (Int32)) (k : KC), L_Md_at_16 y1 y2 s0 n i x4 x5 = some (out, k) → nc + k.1 ≤ mc → ns + k.2 ≤ ms → (∀ e : Int32 × Int64, out = Sum.inl e → ∀ ad : Nat → Nat, XW X 9 ((w_Md cA ob0 ad0  s0)) (nc + k.1) (ns + k.2) 98 [(0, .ref (ob0 0)), (1, .int y1), (2, .long y2), (4, .int (e.1)), (5, .long (e.2))] []) → (∀ r : Int32, out = Sum.inr r → ∀ (ad : Nat → Nat) (pc : Nat) (lv : List (Nat × Value)), narrow .int (.int r) = .int r → decode b_Md_at pc = .ok (.ireturn, 1) → XW X 9 ((w_Md cA ob0 ad0  s0)) (nc + k.1) (ns + k.2) pc lv [.int r]) → XW X 9 ((w_Md cA ob0 ad0  s0)) nc ns 16 [(0, .ref (ob0 0)), (1, .int y1), (2, .long y2), (4, .int x4), (5, .long x5)] [] := by
  intro i
  induction i with
  | zero =>
    intro x4 x5  nc ns out k hm
    replace hm : (none : MO ((Int32 × Int64) ⊕ (Int32))) = some (out, k) := hm
    cases hm
  | succ i ih =>
    intro x4 x5  nc ns out k hm hc hs KX KR
    rw [L_Md_at_16_s] at hm
    refine x_ws (ws' := [((ob0 0), .inr (8, [.ref (ob0 1), .ref (ob0 2), .ref (ob0 3), .ref (ob0 4), .ref (ob0 5), .ref (ob0 6), .ref (ob0 7), .ref (ob0 8), .ref (ob0 9), .int (Md_end s0), .int (Md_nodes s0), .ref (ob0 10), .ref (ob0 11), .int (Md_fields s0), .ref (ob0 12), .ref (ob0 13), .int (Md_pushed s0), .ref (ob0 14), .int (Md_touches s0), .ref (ob0 15), .ref (ob0 16), .ref (ob0 17), .ref (ob0 18), .ref (ad0 0), .ref (ad0 1), .int (Md_length s0)])), ((ob0 1), .inl (cA 1, (Md_kinds s0).1, .inl (Md_kinds s0).2)), ((ob0 2), .inl (cA 0, (Md_values s0).1, .inl (Md_values s0).2)), ((ob0 3), .inl (cA 0, (Md_firsts s0).1, .inl (Md_firsts s0).2)), ((ob0 4), .inl (cA 0, (Md_manies s0).1, .inl (Md_manies s0).2)), ((ob0 5), .inl (cA 2, (Md_said s0).1, .inl (Md_said s0).2)), ((ob0 6), .inl (cA 2, (Md_marked s0).1, .inl (Md_marked s0).2)), ((ob0 7), .inl (cA 0, (Md_leaders s0).1, .inl (Md_leaders s0).2)), ((ob0 8), .inl (cA 0, (Md_trial s0).1, .inl (Md_trial s0).2)), ((ob0 9), .inl (cA 0, (Md_shown s0).1, .inl (Md_shown s0).2)), ((ob0 10), .inl (cA 0, (Md_features s0).1, .inl (Md_features s0).2)), ((ob0 11), .inl (cA 0, (Md_parts s0).1, .inl (Md_parts s0).2)), ((ob0 12), .inl (cA 0, (Md_pushedFeatures s0).1, .inl (Md_pushedFeatures s0).2)), ((ob0 13), .inl (cA 0, (Md_pushedParts s0).1, .inl (Md_pushedParts s0).2)), ((ob0 14), .inl (cA 0, (Md_touched s0).1, .inl (Md_touched s0).2)), ((ob0 15), .inl (cA 0, (Md_reached s0).1, .inl (Md_reached s0).2)), ((ob0 16), .inl (cA 0, (Md_blocks s0).1, .inl (Md_blocks s0).2)), ((ob0 17), .inl (cA 0, (Md_newBlocks s0).1, .inl (Md_newBlocks s0).2)), ((ob0 18), .inl (cA 0, (Md_places s0).1, .inl (Md_places s0).2)), ((ad0 0), .inl (cA 0, (Md_written s0).1, .inl (Md_written s0).2)), ((ad0 1), .inl (cA 0, (Md_other s0).1, .inl (Md_other s0).2))]) rfl ?_
    refine x_lload F d_Md_at_16 4 rfl ?_
    refine x_ldc2 (v := (255 : Int64)) F kw_816 d_Md_at_18 ?_
    refine x_land F d_Md_at_21 ?_
    refine x_lconst (v := (0 : Int64)) F d_Md_at_22 (by decide) ?_
    refine x_lcmp F d_Md_at_23 ?_
    refine x_if_eq F 98 d_Md_at_24 (by decide) (fun c25 => ?_) (fun c25 => ?_)
    · replace hm := xm_t hm c25
      replace hm := xm_p_some hm
      obtain ⟨eo, c_o, d_o⟩ := hm
      refine x_sub [0, 1, 2, 3, 4, 5, 6, 7, 8, 9, 10, 11, 12, 13, 14, 15, 16, 17, 18, 19, 20] (by decide) ?_ (x_lv [0, 1, 2, 3, 4] ?_ (x_cs (by omega) (by omega) (KX _ eo (fun _ => 0))))
      · rfl
      · rfl
    · replace hm := xm_f hm c25
      refine x_aload_n F d_Md_at_27 0 rfl rfl ?_
      refine x_iload F d_Md_at_28 3 rfl ?_
      replace hm := xm_b_some hm
      obtain ⟨o26, k27, k28, h29, hm, c_o26, d_o26⟩ := hm
      refine x_callV (n := 1) (C := R_Md) (wr := []) F (c_Md_meant l D cA n ob0 ad0 s0 x4 o26 k27 h29) kw_786 kw_783 kw_785 kw_27 kw_47 ⟨rfl, by decide, by decide, by decide +kernel⟩ rfl (by decide) (by decide) (ci := 8) rfl rfl 0 rfl [0, 1, 2, 3, 4, 5, 6, 7, 8, 9, 10, 11, 12, 13, 14, 15, 16, 17, 18, 19, 20] [] rfl rfl (by decide) (by decide) (by decide) rfl (Nat.le_of_ble_eq_true rfl) (by omega) (by omega) d_Md_at_30 (fun ad30 => ?_)
      refine x_nf (ws' := [((ob0 0), .inr (8, [.ref (ob0 1), .ref (ob0 2), .ref (ob0 3), .ref (ob0 4), .ref (ob0 5), .ref (ob0 6), .ref (ob0 7), .ref (ob0 8), .ref (ob0 9), .int (Md_end s0), .int (Md_nodes s0), .ref (ob0 10), .ref (ob0 11), .int (Md_fields s0), .ref (ob0 12), .ref (ob0 13), .int (Md_pushed s0), .ref (ob0 14), .int (Md_touches s0), .ref (ob0 15), .ref (ob0 16), .ref (ob0 17), .ref (ob0 18), .ref (ad0 0), .ref (ad0 1), .int (Md_length s0)])), ((ob0 1), .inl (cA 1, (Md_kinds s0).1, .inl (Md_kinds s0).2)), ((ob0 2), .inl (cA 0, (Md_values s0).1, .inl (Md_values s0).2)), ((ob0 3), .inl (cA 0, (Md_firsts s0).1, .inl (Md_firsts s0).2)), ((ob0 4), .inl (cA 0, (Md_manies s0).1, .inl (Md_manies s0).2)), ((ob0 5), .inl (cA 2, (Md_said s0).1, .inl (Md_said s0).2)), ((ob0 6), .inl (cA 2, (Md_marked s0).1, .inl (Md_marked s0).2)), ((ob0 7), .inl (cA 0, (Md_leaders s0).1, .inl (Md_leaders s0).2)), ((ob0 8), .inl (cA 0, (Md_trial s0).1, .inl (Md_trial s0).2)), ((ob0 9), .inl (cA 0, (Md_shown s0).1, .inl (Md_shown s0).2)), ((ob0 10), .inl (cA 0, (Md_features s0).1, .inl (Md_features s0).2)), ((ob0 11), .inl (cA 0, (Md_parts s0).1, .inl (Md_parts s0).2)), ((ob0 12), .inl (cA 0, (Md_pushedFeatures s0).1, .inl (Md_pushedFeatures s0).2)), ((ob0 13), .inl (cA 0, (Md_pushedParts s0).1, .inl (Md_pushedParts s0).2)), ((ob0 14), .inl (cA 0, (Md_touched s0).1, .inl (Md_touched s0).2)), ((ob0 15), .inl (cA 0, (Md_reached s0).1, .inl (Md_reached s0).2)), ((ob0 16), .inl (cA 0, (Md_blocks s0).1, .inl (Md_blocks s0).2)), ((ob0 17), .inl (cA 0, (Md_newBlocks s0).1, .inl (Md_newBlocks s0).2)), ((ob0 18), .inl (cA 0, (Md_places s0).1, .inl (Md_places s0).2)), ((ad0 0), .inl (cA 0, (Md_written s0).1, .inl (Md_written s0).2)), ((ad0 1), .inl (cA 0, (Md_other s0).1, .inl (Md_other s0).2))]) (st' := [.int o26]) rfl rfl ?_
      refine x_istore (lv' := [(7, .int o26), (0, .ref (ob0 0)), (1, .int y1), (2, .long y2), (4, .int x4), (5, .long x5)]) F d_Md_at_33 (by decide) rfl ?_
      refine x_lload F d_Md_at_35 5 rfl ?_
      refine x_ldc2 (v := (255 : Int64)) F kw_816 d_Md_at_37 ?_
      refine x_land F d_Md_at_40 ?_
      refine x_l2i (v := ((x5 &&& (255 : Int64))).toInt32) F d_Md_at_41 rfl ?_
      refine x_istore (lv' := [(8, .int ((x5 &&& (255 : Int64))).toInt32), (7, .int o26), (0, .ref (ob0 0)), (1, .int y1), (2, .long y2), (4, .int x4), (5, .long x5)]) F d_Md_at_42 (by decide) rfl ?_
      refine x_aload_n F d_Md_at_44 2 rfl rfl ?_
      refine x_get F ck_Md hin_Md 0 0 rfl (by decide) kw_634 rfl rfl d_Md_at_45 ?_
      refine x_iload F d_Md_at_48 1 rfl ?_
      replace hm := xm_rd_some hm
      obtain ⟨v31, e_v31, b_v31, hm⟩ := hm
      refine x_bald (x := (Md_kinds s0)) F 1 rfl e_v31 b_v31 d_Md_at_50 ?_
      refine x_iconst (v := (3 : Int32)) F d_Md_at_51 (by decide) ?_
      refine x_icmp_lt F 67 d_Md_at_52 (by decide) (fun c32 => ?_) (fun c32 => ?_)
      · replace hm := xm_t hm c32
        refine x_iconst (v := (-1 : Int32)) F d_Md_at_67 (by decide) ?_
        replace hm := xm_p_some hm
        obtain ⟨eo, c_o, d_o⟩ := hm
        refine x_sub [0, 1, 2, 3, 4, 5, 6, 7, 8, 9, 10, 11, 12, 13, 14, 15, 16, 17, 18, 19, 20] (by decide) ?_ (x_cs (by omega) (by omega) (KR _ eo (fun _ => 0) _ _ (xz_i _) d_Md_at_68))
        rfl
      · replace hm := xm_f hm c32
        refine x_iload F d_Md_at_55 0 rfl ?_
        refine x_aload_n F d_Md_at_57 2 rfl rfl ?_
        refine x_get F ck_Md hin_Md 0 3 rfl (by decide) kw_637 rfl rfl d_Md_at_58 ?_
        refine x_iload F d_Md_at_61 1 rfl ?_
        replace hm := xm_rd_some hm
        obtain ⟨v33, e_v33, b_v33, hm⟩ := hm
        refine x_iald (x := (Md_manies s0)) F 4 rfl e_v33 b_v33 d_Md_at_63 ?_
        refine x_icmp_le F 69 d_Md_at_64 (by decide) (fun c34 => ?_) (fun c34 => ?_)
        · replace hm := xm_t hm c34
          refine x_aload_n F d_Md_at_69 2 rfl rfl ?_
          refine x_get F ck_Md hin_Md 0 12 rfl (by decide) kw_646 rfl rfl d_Md_at_70 ?_
          refine x_aload_n F d_Md_at_73 2 rfl rfl ?_
          refine x_get F ck_Md hin_Md 0 2 rfl (by decide) kw_636 rfl rfl d_Md_at_74 ?_
          refine x_iload F d_Md_at_77 1 rfl ?_
          replace hm := xm_rd_some hm
          obtain ⟨v35, e_v35, b_v35, hm⟩ := hm
          refine x_iald (x := (Md_firsts s0)) F 3 rfl e_v35 b_v35 d_Md_at_79 ?_
          refine x_iload F d_Md_at_80 0 rfl ?_
          refine x_iadd F d_Md_at_82 ?_
          refine x_iconst (v := (1 : Int32)) F d_Md_at_83 (by decide) ?_
          refine x_isub F d_Md_at_84 ?_
          replace hm := xm_rd_some hm
          obtain ⟨v36, e_v36, b_v36, hm⟩ := hm
          refine x_iald (x := (Md_parts s0)) F 11 rfl e_v36 b_v36 d_Md_at_85 ?_
          refine x_istore (lv' := [(4, .int v36), (8, .int ((x5 &&& (255 : Int64))).toInt32), (7, .int o26), (0, .ref (ob0 0)), (1, .int y1), (2, .long y2), (5, .long x5)]) F d_Md_at_86 (by decide) rfl ?_
          refine x_lload F d_Md_at_88 6 rfl ?_
          refine x_bipush (v := (8 : Int32)) F d_Md_at_90 (by decide) ?_
          refine x_lushr (v := (x5.toUInt64 >>> ((8 : Int32).toInt64.toUInt64 &&& Int64.toUInt64 63)).toInt64) F d_Md_at_92 rfl ?_
          refine x_lstore (lv' := [(5, .long (x5.toUInt64 >>> ((8 : Int32).toInt64.toUInt64 &&& Int64.toUInt64 63)).toInt64), (4, .int v36), (8, .int ((x5 &&& (255 : Int64))).toInt32), (7, .int o26), (0, .ref (ob0 0)), (1, .int y1), (2, .long y2)]) F d_Md_at_93 (by decide) rfl ?_
          refine x_goto F 16 d_Md_at_95 (by decide) ?_
          refine x_sub [0, 1, 2, 3, 4, 5, 6, 7, 8, 9, 10, 11, 12, 13, 14, 15, 16, 17, 18, 19, 20] (by decide) ?_ (x_lv [4, 5, 6, 1, 0] ?_ (ih v36 (x5.toUInt64 >>> ((8 : Int32).toInt64.toUInt64 &&& Int64.toUInt64 63)).toInt64  _ _ out k28 hm (by omega) (by omega) (fun e he ad => x_cs (by omega) (by omega) (KX e he ad)) (fun r hr ad pc lv hn hd => x_cs (by omega) (by omega) (KR r hr ad pc lv hn hd))))
          · rfl
          · rfl
        · replace hm := xm_f hm c34
          refine x_iconst (v := (-1 : Int32)) F d_Md_at_67 (by decide) ?_
          replace hm := xm_p_some hm
          obtain ⟨eo, c_o, d_o⟩ := hm
          refine x_sub [0, 1, 2, 3, 4, 5, 6, 7, 8, 9, 10, 11, 12, 13, 14, 15, 16, 17, 18, 19, 20] (by decide) ?_ (x_cs (by omega) (by omega) (KR _ eo (fun _ => 0) _ _ (xz_i _) d_Md_at_68))
          rfl
set_option maxHeartbeats 4000000 in
set_option maxRecDepth 100000 in
theorem c_Md_at (l : Launch) (D : va_G) (cA : Nat → ClassId) (n : Nat) (ob0 ad0 : Nat → Nat) (s0 : S_Md) (p0 : Int32) (p1 : Int64) (out : Int32) (k : KC) (hm : m_Md_at n s0 p0 p1 = some (out, k)) : XM l D cA y_Md_at b_Md_at 9 (some FieldType.int) 1 22 [.ref (ob0 0), .int p0, .long p1] ((w_Md cA ob0 ad0  s0)) k (fun _ => some (.int out)) (fun ad => (w_Md cA ob0 ad0  s0)) := by
  refine x_met (cc := b_Md_at) (nL := 9) (ret := (some FieldType.int)) R_Md (by decide) (Nat.le_of_ble_eq_true rfl) rfl (fun X F I E => ?_)
  unfold m_Md_at at hm
  refine x_nf2 (ws' := [((ob0 0), .inr (8, [.ref (ob0 1), .ref (ob0 2), .ref (ob0 3), .ref (ob0 4), .ref (ob0 5), .ref (ob0 6), .ref (ob0 7), .ref (ob0 8), .ref (ob0 9), .int (Md_end s0), .int (Md_nodes s0), .ref (ob0 10), .ref (ob0 11), .int (Md_fields s0), .ref (ob0 12), .ref (ob0 13), .int (Md_pushed s0), .ref (ob0 14), .int (Md_touches s0), .ref (ob0 15), .ref (ob0 16), .ref (ob0 17), .ref (ob0 18), .ref (ad0 0), .ref (ad0 1), .int (Md_length s0)])), ((ob0 1), .inl (cA 1, (Md_kinds s0).1, .inl (Md_kinds s0).2)), ((ob0 2), .inl (cA 0, (Md_values s0).1, .inl (Md_values s0).2)), ((ob0 3), .inl (cA 0, (Md_firsts s0).1, .inl (Md_firsts s0).2)), ((ob0 4), .inl (cA 0, (Md_manies s0).1, .inl (Md_manies s0).2)), ((ob0 5), .inl (cA 2, (Md_said s0).1, .inl (Md_said s0).2)), ((ob0 6), .inl (cA 2, (Md_marked s0).1, .inl (Md_marked s0).2)), ((ob0 7), .inl (cA 0, (Md_leaders s0).1, .inl (Md_leaders s0).2)), ((ob0 8), .inl (cA 0, (Md_trial s0).1, .inl (Md_trial s0).2)), ((ob0 9), .inl (cA 0, (Md_shown s0).1, .inl (Md_shown s0).2)), ((ob0 10), .inl (cA 0, (Md_features s0).1, .inl (Md_features s0).2)), ((ob0 11), .inl (cA 0, (Md_parts s0).1, .inl (Md_parts s0).2)), ((ob0 12), .inl (cA 0, (Md_pushedFeatures s0).1, .inl (Md_pushedFeatures s0).2)), ((ob0 13), .inl (cA 0, (Md_pushedParts s0).1, .inl (Md_pushedParts s0).2)), ((ob0 14), .inl (cA 0, (Md_touched s0).1, .inl (Md_touched s0).2)), ((ob0 15), .inl (cA 0, (Md_reached s0).1, .inl (Md_reached s0).2)), ((ob0 16), .inl (cA 0, (Md_blocks s0).1, .inl (Md_blocks s0).2)), ((ob0 17), .inl (cA 0, (Md_newBlocks s0).1, .inl (Md_newBlocks s0).2)), ((ob0 18), .inl (cA 0, (Md_places s0).1, .inl (Md_places s0).2)), ((ad0 0), .inl (cA 0, (Md_written s0).1, .inl (Md_written s0).2)), ((ad0 1), .inl (cA 0, (Md_other s0).1, .inl (Md_other s0).2))]) (lv' := [(0, .ref (ob0 0)), (1, .int p0), (2, .long p1)]) rfl rfl ?_
  refine x_aload_n F d_Md_at_0 0 rfl rfl ?_
  refine x_iload_n F d_Md_at_1 1 rfl rfl ?_
  replace hm := xm_b_some hm
  obtain ⟨o19, k20, k21, h22, hm, c_o19, d_o19⟩ := hm
  refine x_callV (n := 1) (C := R_Md) (wr := []) F (c_Md_has l D cA n ob0 ad0 s0 p0 o19 k20 h22) kw_742 kw_739 kw_741 kw_20 kw_47 ⟨rfl, by decide, by decide, by decide +kernel⟩ rfl (by decide) (by decide) (ci := 8) rfl rfl 0 rfl [0, 1, 2, 3, 4, 5, 6, 7, 8, 9, 10, 11, 12, 13, 14, 15, 16, 17, 18, 19, 20] [] rfl rfl (by decide) (by decide) (by decide) rfl (Nat.le_of_ble_eq_true rfl) (by omega) (by omega) d_Md_at_2 (fun ad23 => ?_)
  refine x_nf (ws' := [((ob0 0), .inr (8, [.ref (ob0 1), .ref (ob0 2), .ref (ob0 3), .ref (ob0 4), .ref (ob0 5), .ref (ob0 6), .ref (ob0 7), .ref (ob0 8), .ref (ob0 9), .int (Md_end s0), .int (Md_nodes s0), .ref (ob0 10), .ref (ob0 11), .int (Md_fields s0), .ref (ob0 12), .ref (ob0 13), .int (Md_pushed s0), .ref (ob0 14), .int (Md_touches s0), .ref (ob0 15), .ref (ob0 16), .ref (ob0 17), .ref (ob0 18), .ref (ad0 0), .ref (ad0 1), .int (Md_length s0)])), ((ob0 1), .inl (cA 1, (Md_kinds s0).1, .inl (Md_kinds s0).2)), ((ob0 2), .inl (cA 0, (Md_values s0).1, .inl (Md_values s0).2)), ((ob0 3), .inl (cA 0, (Md_firsts s0).1, .inl (Md_firsts s0).2)), ((ob0 4), .inl (cA 0, (Md_manies s0).1, .inl (Md_manies s0).2)), ((ob0 5), .inl (cA 2, (Md_said s0).1, .inl (Md_said s0).2)), ((ob0 6), .inl (cA 2, (Md_marked s0).1, .inl (Md_marked s0).2)), ((ob0 7), .inl (cA 0, (Md_leaders s0).1, .inl (Md_leaders s0).2)), ((ob0 8), .inl (cA 0, (Md_trial s0).1, .inl (Md_trial s0).2)), ((ob0 9), .inl (cA 0, (Md_shown s0).1, .inl (Md_shown s0).2)), ((ob0 10), .inl (cA 0, (Md_features s0).1, .inl (Md_features s0).2)), ((ob0 11), .inl (cA 0, (Md_parts s0).1, .inl (Md_parts s0).2)), ((ob0 12), .inl (cA 0, (Md_pushedFeatures s0).1, .inl (Md_pushedFeatures s0).2)), ((ob0 13), .inl (cA 0, (Md_pushedParts s0).1, .inl (Md_pushedParts s0).2)), ((ob0 14), .inl (cA 0, (Md_touched s0).1, .inl (Md_touched s0).2)), ((ob0 15), .inl (cA 0, (Md_reached s0).1, .inl (Md_reached s0).2)), ((ob0 16), .inl (cA 0, (Md_blocks s0).1, .inl (Md_blocks s0).2)), ((ob0 17), .inl (cA 0, (Md_newBlocks s0).1, .inl (Md_newBlocks s0).2)), ((ob0 18), .inl (cA 0, (Md_places s0).1, .inl (Md_places s0).2)), ((ad0 0), .inl (cA 0, (Md_written s0).1, .inl (Md_written s0).2)), ((ad0 1), .inl (cA 0, (Md_other s0).1, .inl (Md_other s0).2))]) (st' := [.int o19]) rfl rfl ?_
  refine x_if_ne F 10 d_Md_at_5 (by decide) (fun c24 => ?_) (fun c24 => ?_)
  · replace hm := xm_f hm c24
    refine x_iload_n F d_Md_at_10 1 rfl rfl ?_
    refine x_istore (lv' := [(4, .int p0), (0, .ref (ob0 0)), (1, .int p0), (2, .long p1)]) F d_Md_at_11 (by decide) rfl ?_
    refine x_lload_n F d_Md_at_13 3 rfl rfl ?_
    refine x_lstore (lv' := [(5, .long p1), (4, .int p0), (0, .ref (ob0 0)), (1, .int p0), (2, .long p1)]) F d_Md_at_14 (by decide) rfl ?_
    replace hm := xm_b_some hm
    obtain ⟨o37, k38, k39, h40, hm, c_o37, d_o37⟩ := hm
    refine x_sub [0, 1, 2, 3, 4, 5, 6, 7, 8, 9, 10, 11, 12, 13, 14, 15, 16, 17, 18, 19, 20] (by decide) ?_ (x_lv [2, 3, 4, 1, 0] ?_ (wl_Md_at_16 F n ob0 p0 p1 s0 ad0 n p0 p1  _ _ o37 k38 h40 (by omega) (by omega) (fun e42 h44 ad41 => ?_) (fun r43 h44 ad41 pc lv hn hd => ?_)))
    · rfl
    · rfl
    · subst h44
      replace hm := xm_inl hm
      refine x_nf2 (ws' := [((ob0 0), .inr (8, [.ref (ob0 1), .ref (ob0 2), .ref (ob0 3), .ref (ob0 4), .ref (ob0 5), .ref (ob0 6), .ref (ob0 7), .ref (ob0 8), .ref (ob0 9), .int (Md_end s0), .int (Md_nodes s0), .ref (ob0 10), .ref (ob0 11), .int (Md_fields s0), .ref (ob0 12), .ref (ob0 13), .int (Md_pushed s0), .ref (ob0 14), .int (Md_touches s0), .ref (ob0 15), .ref (ob0 16), .ref (ob0 17), .ref (ob0 18), .ref (ad0 0), .ref (ad0 1), .int (Md_length s0)])), ((ob0 1), .inl (cA 1, (Md_kinds s0).1, .inl (Md_kinds s0).2)), ((ob0 2), .inl (cA 0, (Md_values s0).1, .inl (Md_values s0).2)), ((ob0 3), .inl (cA 0, (Md_firsts s0).1, .inl (Md_firsts s0).2)), ((ob0 4), .inl (cA 0, (Md_manies s0).1, .inl (Md_manies s0).2)), ((ob0 5), .inl (cA 2, (Md_said s0).1, .inl (Md_said s0).2)), ((ob0 6), .inl (cA 2, (Md_marked s0).1, .inl (Md_marked s0).2)), ((ob0 7), .inl (cA 0, (Md_leaders s0).1, .inl (Md_leaders s0).2)), ((ob0 8), .inl (cA 0, (Md_trial s0).1, .inl (Md_trial s0).2)), ((ob0 9), .inl (cA 0, (Md_shown s0).1, .inl (Md_shown s0).2)), ((ob0 10), .inl (cA 0, (Md_features s0).1, .inl (Md_features s0).2)), ((ob0 11), .inl (cA 0, (Md_parts s0).1, .inl (Md_parts s0).2)), ((ob0 12), .inl (cA 0, (Md_pushedFeatures s0).1, .inl (Md_pushedFeatures s0).2)), ((ob0 13), .inl (cA 0, (Md_pushedParts s0).1, .inl (Md_pushedParts s0).2)), ((ob0 14), .inl (cA 0, (Md_touched s0).1, .inl (Md_touched s0).2)), ((ob0 15), .inl (cA 0, (Md_reached s0).1, .inl (Md_reached s0).2)), ((ob0 16), .inl (cA 0, (Md_blocks s0).1, .inl (Md_blocks s0).2)), ((ob0 17), .inl (cA 0, (Md_newBlocks s0).1, .inl (Md_newBlocks s0).2)), ((ob0 18), .inl (cA 0, (Md_places s0).1, .inl (Md_places s0).2)), ((ad0 0), .inl (cA 0, (Md_written s0).1, .inl (Md_written s0).2)), ((ad0 1), .inl (cA 0, (Md_other s0).1, .inl (Md_other s0).2))]) (lv' := [(0, .ref (ob0 0)), (1, .int p0), (2, .long p1), (4, .int (e42.1)), (5, .long (e42.2))]) rfl rfl ?_
      refine x_iload F d_Md_at_98 3 rfl ?_
      replace hm := xm_p_some hm
      obtain ⟨eo, c_o, d_o⟩ := hm
      subst eo
      refine x_sub [0, 1, 2, 3, 4, 5, 6, 7, 8, 9, 10, 11, 12, 13, 14, 15, 16, 17, 18, 19, 20] (by decide) ?_ (xe_i E (fun _ => 0) (by omega) (by omega) rfl (xz_i _) d_Md_at_100)
      rfl
    · subst h44
      replace hm := xm_inr hm
      replace hm := xm_p_some hm
      obtain ⟨eo, c_o, d_o⟩ := hm
      subst eo
      exact xe_i E (fun _ => 0) (by omega) (by omega) rfl hn hd
  · replace hm := xm_t hm c24
    refine x_iconst (v := (-1 : Int32)) F d_Md_at_8 (by decide) ?_
    replace hm := xm_p_some hm
    obtain ⟨eo, c_o, d_o⟩ := hm
    subst eo
    refine x_sub [0, 1, 2, 3, 4, 5, 6, 7, 8, 9, 10, 11, 12, 13, 14, 15, 16, 17, 18, 19, 20] (by decide) ?_ (xe_i E (fun _ => 0) (by omega) (by omega) rfl (xz_i _) d_Md_at_9)
    rfl

noncomputable def m_Md_look (n : Nat) (s0 : S_Md) (p0 : Int32) (p1 : Int64) (p2 : Int32) : MO (Int32) := (xm_b (m_Md_at n s0 p0 p1) (fun o26 => (if o26 = (-1 : Int32) then (xm_p (-1 : Int32)) else (xm_b (m_Md_meant n s0 o26) (fun o32 => (if p2 = (0 : Int32) then (xm_rd (Md_kinds s0) o32 (fun v38 => (xm_p v38))) else (if p2 = (1 : Int32) then (xm_rd (Md_kinds s0) o32 (fun v40 => (if v40 = 0 then (xm_p (0 : Int32)) else (xm_rd (Md_values s0) o32 (fun v42 => (xm_p v42)))))) else (if p2 = (2 : Int32) then (xm_rd (Md_kinds s0) o32 (fun v44 => (if (3 : Int32) ≤ v44 then (xm_rd (Md_manies s0) o32 (fun v46 => (xm_p v46))) else (xm_p (0 : Int32))))) else (if p2 = (3 : Int32) then (xm_rd (Md_leaders s0) o26 (fun v48 => (xm_p v48))) else (if p2 = (4 : Int32) then (xm_b (m_Md_isNeeded n s0 o26) (fun o50 => (if o50 = 0 then (xm_p (0 : Int32)) else (xm_p (1 : Int32))))) else (xm_p (-1 : Int32))))))))))))
set_option maxHeartbeats 4000000 in
set_option maxRecDepth 100000 in
theorem c_Md_look (l : Launch) (D : va_G) (cA : Nat → ClassId) (n : Nat) (ob0 ad0 : Nat → Nat) (s0 : S_Md) (p0 : Int32) (p1 : Int64) (p2 : Int32) (out : Int32) (k : KC) (hm : m_Md_look n s0 p0 p1 p2 = some (out, k)) : XM l D cA y_Md_look b_Md_look 7 (some FieldType.int) 2 50 [.ref (ob0 0), .int p0, .long p1, .int p2] ((w_Md cA ob0 ad0  s0)) k (fun _ => some (.int out)) (fun ad => (w_Md cA ob0 ad0  s0)) := by
  refine x_met (cc := b_Md_look) (nL := 7) (ret := (some FieldType.int)) R_Md (by decide) (Nat.le_of_ble_eq_true rfl) rfl (fun X F I E => ?_)
  unfold m_Md_look at hm
  refine x_nf2 (ws' := [((ob0 0), .inr (8, [.ref (ob0 1), .ref (ob0 2), .ref (ob0 3), .ref (ob0 4), .ref (ob0 5), .ref (ob0 6), .ref (ob0 7), .ref (ob0 8), .ref (ob0 9), .int (Md_end s0), .int (Md_nodes s0), .ref (ob0 10), .ref (ob0 11), .int (Md_fields s0), .ref (ob0 12), .ref (ob0 13), .int (Md_pushed s0), .ref (ob0 14), .int (Md_touches s0), .ref (ob0 15), .ref (ob0 16), .ref (ob0 17), .ref (ob0 18), .ref (ad0 0), .ref (ad0 1), .int (Md_length s0)])), ((ob0 1), .inl (cA 1, (Md_kinds s0).1, .inl (Md_kinds s0).2)), ((ob0 2), .inl (cA 0, (Md_values s0).1, .inl (Md_values s0).2)), ((ob0 3), .inl (cA 0, (Md_firsts s0).1, .inl (Md_firsts s0).2)), ((ob0 4), .inl (cA 0, (Md_manies s0).1, .inl (Md_manies s0).2)), ((ob0 5), .inl (cA 2, (Md_said s0).1, .inl (Md_said s0).2)), ((ob0 6), .inl (cA 2, (Md_marked s0).1, .inl (Md_marked s0).2)), ((ob0 7), .inl (cA 0, (Md_leaders s0).1, .inl (Md_leaders s0).2)), ((ob0 8), .inl (cA 0, (Md_trial s0).1, .inl (Md_trial s0).2)), ((ob0 9), .inl (cA 0, (Md_shown s0).1, .inl (Md_shown s0).2)), ((ob0 10), .inl (cA 0, (Md_features s0).1, .inl (Md_features s0).2)), ((ob0 11), .inl (cA 0, (Md_parts s0).1, .inl (Md_parts s0).2)), ((ob0 12), .inl (cA 0, (Md_pushedFeatures s0).1, .inl (Md_pushedFeatures s0).2)), ((ob0 13), .inl (cA 0, (Md_pushedParts s0).1, .inl (Md_pushedParts s0).2)), ((ob0 14), .inl (cA 0, (Md_touched s0).1, .inl (Md_touched s0).2)), ((ob0 15), .inl (cA 0, (Md_reached s0).1, .inl (Md_reached s0).2)), ((ob0 16), .inl (cA 0, (Md_blocks s0).1, .inl (Md_blocks s0).2)), ((ob0 17), .inl (cA 0, (Md_newBlocks s0).1, .inl (Md_newBlocks s0).2)), ((ob0 18), .inl (cA 0, (Md_places s0).1, .inl (Md_places s0).2)), ((ad0 0), .inl (cA 0, (Md_written s0).1, .inl (Md_written s0).2)), ((ad0 1), .inl (cA 0, (Md_other s0).1, .inl (Md_other s0).2))]) (lv' := [(0, .ref (ob0 0)), (1, .int p0), (2, .long p1), (4, .int p2)]) rfl rfl ?_
  refine x_aload_n F d_Md_look_0 0 rfl rfl ?_
  refine x_iload_n F d_Md_look_1 1 rfl rfl ?_
  refine x_lload_n F d_Md_look_2 2 rfl rfl ?_
  replace hm := xm_b_some hm
  obtain ⟨o26, k27, k28, h29, hm, c_o26, d_o26⟩ := hm
  refine x_callV (n := 2) (C := R_Md) (wr := []) F (c_Md_at l D cA n ob0 ad0 s0 p0 p1 o26 k27 h29) kw_815 kw_812 kw_814 kw_29 kw_47 ⟨rfl, by decide, by decide, by decide +kernel⟩ rfl (by decide) (by decide) (ci := 8) rfl rfl 0 rfl [0, 1, 2, 3, 4, 5, 6, 7, 8, 9, 10, 11, 12, 13, 14, 15, 16, 17, 18, 19, 20] [] rfl rfl (by decide) (by decide) (by decide) rfl (Nat.le_of_ble_eq_true rfl) (by omega) (by omega) d_Md_look_3 (fun ad30 => ?_)
  refine x_nf (ws' := [((ob0 0), .inr (8, [.ref (ob0 1), .ref (ob0 2), .ref (ob0 3), .ref (ob0 4), .ref (ob0 5), .ref (ob0 6), .ref (ob0 7), .ref (ob0 8), .ref (ob0 9), .int (Md_end s0), .int (Md_nodes s0), .ref (ob0 10), .ref (ob0 11), .int (Md_fields s0), .ref (ob0 12), .ref (ob0 13), .int (Md_pushed s0), .ref (ob0 14), .int (Md_touches s0), .ref (ob0 15), .ref (ob0 16), .ref (ob0 17), .ref (ob0 18), .ref (ad0 0), .ref (ad0 1), .int (Md_length s0)])), ((ob0 1), .inl (cA 1, (Md_kinds s0).1, .inl (Md_kinds s0).2)), ((ob0 2), .inl (cA 0, (Md_values s0).1, .inl (Md_values s0).2)), ((ob0 3), .inl (cA 0, (Md_firsts s0).1, .inl (Md_firsts s0).2)), ((ob0 4), .inl (cA 0, (Md_manies s0).1, .inl (Md_manies s0).2)), ((ob0 5), .inl (cA 2, (Md_said s0).1, .inl (Md_said s0).2)), ((ob0 6), .inl (cA 2, (Md_marked s0).1, .inl (Md_marked s0).2)), ((ob0 7), .inl (cA 0, (Md_leaders s0).1, .inl (Md_leaders s0).2)), ((ob0 8), .inl (cA 0, (Md_trial s0).1, .inl (Md_trial s0).2)), ((ob0 9), .inl (cA 0, (Md_shown s0).1, .inl (Md_shown s0).2)), ((ob0 10), .inl (cA 0, (Md_features s0).1, .inl (Md_features s0).2)), ((ob0 11), .inl (cA 0, (Md_parts s0).1, .inl (Md_parts s0).2)), ((ob0 12), .inl (cA 0, (Md_pushedFeatures s0).1, .inl (Md_pushedFeatures s0).2)), ((ob0 13), .inl (cA 0, (Md_pushedParts s0).1, .inl (Md_pushedParts s0).2)), ((ob0 14), .inl (cA 0, (Md_touched s0).1, .inl (Md_touched s0).2)), ((ob0 15), .inl (cA 0, (Md_reached s0).1, .inl (Md_reached s0).2)), ((ob0 16), .inl (cA 0, (Md_blocks s0).1, .inl (Md_blocks s0).2)), ((ob0 17), .inl (cA 0, (Md_newBlocks s0).1, .inl (Md_newBlocks s0).2)), ((ob0 18), .inl (cA 0, (Md_places s0).1, .inl (Md_places s0).2)), ((ad0 0), .inl (cA 0, (Md_written s0).1, .inl (Md_written s0).2)), ((ad0 1), .inl (cA 0, (Md_other s0).1, .inl (Md_other s0).2))]) (st' := [.int o26]) rfl rfl ?_
  refine x_istore (lv' := [(5, .int o26), (0, .ref (ob0 0)), (1, .int p0), (2, .long p1), (4, .int p2)]) F d_Md_look_6 (by decide) rfl ?_
  refine x_iload F d_Md_look_8 0 rfl ?_
  refine x_iconst (v := (-1 : Int32)) F d_Md_look_10 (by decide) ?_
  refine x_icmp_ne F 16 d_Md_look_11 (by decide) (fun c31 => ?_) (fun c31 => ?_)
  · replace hm := xm_f hm c31
    refine x_aload_n F d_Md_look_16 1 rfl rfl ?_
    refine x_iload F d_Md_look_17 0 rfl ?_
    replace hm := xm_b_some hm
    obtain ⟨o32, k33, k34, h35, hm, c_o32, d_o32⟩ := hm
    refine x_callV (n := 1) (C := R_Md) (wr := []) F (c_Md_meant l D cA n ob0 ad0 s0 o26 o32 k33 h35) kw_786 kw_783 kw_785 kw_27 kw_47 ⟨rfl, by decide, by decide, by decide +kernel⟩ rfl (by decide) (by decide) (ci := 8) rfl rfl 0 rfl [0, 1, 2, 3, 4, 5, 6, 7, 8, 9, 10, 11, 12, 13, 14, 15, 16, 17, 18, 19, 20] [] rfl rfl (by decide) (by decide) (by decide) rfl (Nat.le_of_ble_eq_true rfl) (by omega) (by omega) d_Md_look_19 (fun ad36 => ?_)
    refine x_nf (ws' := [((ob0 0), .inr (8, [.ref (ob0 1), .ref (ob0 2), .ref (ob0 3), .ref (ob0 4), .ref (ob0 5), .ref (ob0 6), .ref (ob0 7), .ref (ob0 8), .ref (ob0 9), .int (Md_end s0), .int (Md_nodes s0), .ref (ob0 10), .ref (ob0 11), .int (Md_fields s0), .ref (ob0 12), .ref (ob0 13), .int (Md_pushed s0), .ref (ob0 14), .int (Md_touches s0), .ref (ob0 15), .ref (ob0 16), .ref (ob0 17), .ref (ob0 18), .ref (ad0 0), .ref (ad0 1), .int (Md_length s0)])), ((ob0 1), .inl (cA 1, (Md_kinds s0).1, .inl (Md_kinds s0).2)), ((ob0 2), .inl (cA 0, (Md_values s0).1, .inl (Md_values s0).2)), ((ob0 3), .inl (cA 0, (Md_firsts s0).1, .inl (Md_firsts s0).2)), ((ob0 4), .inl (cA 0, (Md_manies s0).1, .inl (Md_manies s0).2)), ((ob0 5), .inl (cA 2, (Md_said s0).1, .inl (Md_said s0).2)), ((ob0 6), .inl (cA 2, (Md_marked s0).1, .inl (Md_marked s0).2)), ((ob0 7), .inl (cA 0, (Md_leaders s0).1, .inl (Md_leaders s0).2)), ((ob0 8), .inl (cA 0, (Md_trial s0).1, .inl (Md_trial s0).2)), ((ob0 9), .inl (cA 0, (Md_shown s0).1, .inl (Md_shown s0).2)), ((ob0 10), .inl (cA 0, (Md_features s0).1, .inl (Md_features s0).2)), ((ob0 11), .inl (cA 0, (Md_parts s0).1, .inl (Md_parts s0).2)), ((ob0 12), .inl (cA 0, (Md_pushedFeatures s0).1, .inl (Md_pushedFeatures s0).2)), ((ob0 13), .inl (cA 0, (Md_pushedParts s0).1, .inl (Md_pushedParts s0).2)), ((ob0 14), .inl (cA 0, (Md_touched s0).1, .inl (Md_touched s0).2)), ((ob0 15), .inl (cA 0, (Md_reached s0).1, .inl (Md_reached s0).2)), ((ob0 16), .inl (cA 0, (Md_blocks s0).1, .inl (Md_blocks s0).2)), ((ob0 17), .inl (cA 0, (Md_newBlocks s0).1, .inl (Md_newBlocks s0).2)), ((ob0 18), .inl (cA 0, (Md_places s0).1, .inl (Md_places s0).2)), ((ad0 0), .inl (cA 0, (Md_written s0).1, .inl (Md_written s0).2)), ((ad0 1), .inl (cA 0, (Md_other s0).1, .inl (Md_other s0).2))]) (st' := [.int o32]) rfl rfl ?_
    refine x_istore (lv' := [(6, .int o32), (5, .int o26), (0, .ref (ob0 0)), (1, .int p0), (2, .long p1), (4, .int p2)]) F d_Md_look_22 (by decide) rfl ?_
    refine x_iload F d_Md_look_24 5 rfl ?_
    by_cases c37 : p2 = (0 : Int32)
    · replace hm := xm_t hm c37
      refine x_tableIn F 60 d_Md_look_26 (by rw [c37]; decide) (by rw [c37]; decide) (by rw [c37]; rfl) (by decide) ?_
      refine x_aload_n F d_Md_look_60 2 rfl rfl ?_
      refine x_get F ck_Md hin_Md 0 0 rfl (by decide) kw_634 rfl rfl d_Md_look_61 ?_
      refine x_iload F d_Md_look_64 0 rfl ?_
      replace hm := xm_rd_some hm
      obtain ⟨v38, e_v38, b_v38, hm⟩ := hm
      refine x_bald (x := (Md_kinds s0)) F 1 rfl e_v38 b_v38 d_Md_look_66 ?_
      replace hm := xm_p_some hm
      obtain ⟨eo, c_o, d_o⟩ := hm
      subst eo
      refine x_sub [0, 1, 2, 3, 4, 5, 6, 7, 8, 9, 10, 11, 12, 13, 14, 15, 16, 17, 18, 19, 20] (by decide) ?_ (xe_i E (fun _ => 0) (by omega) (by omega) rfl (xz_i _) d_Md_look_67)
      rfl
    replace hm := xm_f hm c37
    by_cases c39 : p2 = (1 : Int32)
    · replace hm := xm_t hm c39
      refine x_tableIn F 68 d_Md_look_26 (by rw [c39]; decide) (by rw [c39]; decide) (by rw [c39]; rfl) (by decide) ?_
      refine x_aload_n F d_Md_look_68 2 rfl rfl ?_
      refine x_get F ck_Md hin_Md 0 0 rfl (by decide) kw_634 rfl rfl d_Md_look_69 ?_
      refine x_iload F d_Md_look_72 0 rfl ?_
      replace hm := xm_rd_some hm
      obtain ⟨v40, e_v40, b_v40, hm⟩ := hm
      refine x_bald (x := (Md_kinds s0)) F 1 rfl e_v40 b_v40 d_Md_look_74 ?_
      refine x_if_ne F 82 d_Md_look_75 (by decide) (fun c41 => ?_) (fun c41 => ?_)
      · replace hm := xm_f hm c41
        refine x_aload_n F d_Md_look_82 2 rfl rfl ?_
        refine x_get F ck_Md hin_Md 0 1 rfl (by decide) kw_635 rfl rfl d_Md_look_83 ?_
        refine x_iload F d_Md_look_86 0 rfl ?_
        replace hm := xm_rd_some hm
        obtain ⟨v42, e_v42, b_v42, hm⟩ := hm
        refine x_iald (x := (Md_values s0)) F 2 rfl e_v42 b_v42 d_Md_look_88 ?_
        replace hm := xm_p_some hm
        obtain ⟨eo, c_o, d_o⟩ := hm
        subst eo
        refine x_sub [0, 1, 2, 3, 4, 5, 6, 7, 8, 9, 10, 11, 12, 13, 14, 15, 16, 17, 18, 19, 20] (by decide) ?_ (xe_i E (fun _ => 0) (by omega) (by omega) rfl (xz_i _) d_Md_look_89)
        rfl
      · replace hm := xm_t hm c41
        refine x_iconst (v := (0 : Int32)) F d_Md_look_78 (by decide) ?_
        refine x_goto F 89 d_Md_look_79 (by decide) ?_
        replace hm := xm_p_some hm
        obtain ⟨eo, c_o, d_o⟩ := hm
        subst eo
        refine x_sub [0, 1, 2, 3, 4, 5, 6, 7, 8, 9, 10, 11, 12, 13, 14, 15, 16, 17, 18, 19, 20] (by decide) ?_ (xe_i E (fun _ => 0) (by omega) (by omega) rfl (xz_i _) d_Md_look_89)
        rfl
    replace hm := xm_f hm c39
    by_cases c43 : p2 = (2 : Int32)
    · replace hm := xm_t hm c43
      refine x_tableIn F 90 d_Md_look_26 (by rw [c43]; decide) (by rw [c43]; decide) (by rw [c43]; rfl) (by decide) ?_
      refine x_aload_n F d_Md_look_90 2 rfl rfl ?_
      refine x_get F ck_Md hin_Md 0 0 rfl (by decide) kw_634 rfl rfl d_Md_look_91 ?_
      refine x_iload F d_Md_look_94 0 rfl ?_
      replace hm := xm_rd_some hm
      obtain ⟨v44, e_v44, b_v44, hm⟩ := hm
      refine x_bald (x := (Md_kinds s0)) F 1 rfl e_v44 b_v44 d_Md_look_96 ?_
      refine x_iconst (v := (3 : Int32)) F d_Md_look_97 (by decide) ?_
      refine x_icmp_ge F 105 d_Md_look_98 (by decide) (fun c45 => ?_) (fun c45 => ?_)
      · replace hm := xm_t hm c45
        refine x_aload_n F d_Md_look_105 2 rfl rfl ?_
        refine x_get F ck_Md hin_Md 0 3 rfl (by decide) kw_637 rfl rfl d_Md_look_106 ?_
        refine x_iload F d_Md_look_109 0 rfl ?_
        replace hm := xm_rd_some hm
        obtain ⟨v46, e_v46, b_v46, hm⟩ := hm
        refine x_iald (x := (Md_manies s0)) F 4 rfl e_v46 b_v46 d_Md_look_111 ?_
        replace hm := xm_p_some hm
        obtain ⟨eo, c_o, d_o⟩ := hm
        subst eo
        refine x_sub [0, 1, 2, 3, 4, 5, 6, 7, 8, 9, 10, 11, 12, 13, 14, 15, 16, 17, 18, 19, 20] (by decide) ?_ (xe_i E (fun _ => 0) (by omega) (by omega) rfl (xz_i _) d_Md_look_112)
        rfl
      · replace hm := xm_f hm c45
        refine x_iconst (v := (0 : Int32)) F d_Md_look_101 (by decide) ?_
        refine x_goto F 112 d_Md_look_102 (by decide) ?_
        replace hm := xm_p_some hm
        obtain ⟨eo, c_o, d_o⟩ := hm
        subst eo
        refine x_sub [0, 1, 2, 3, 4, 5, 6, 7, 8, 9, 10, 11, 12, 13, 14, 15, 16, 17, 18, 19, 20] (by decide) ?_ (xe_i E (fun _ => 0) (by omega) (by omega) rfl (xz_i _) d_Md_look_112)
        rfl
    replace hm := xm_f hm c43
    by_cases c47 : p2 = (3 : Int32)
    · replace hm := xm_t hm c47
      refine x_tableIn F 113 d_Md_look_26 (by rw [c47]; decide) (by rw [c47]; decide) (by rw [c47]; rfl) (by decide) ?_
      refine x_aload_n F d_Md_look_113 2 rfl rfl ?_
      refine x_get F ck_Md hin_Md 0 6 rfl (by decide) kw_640 rfl rfl d_Md_look_114 ?_
      refine x_iload F d_Md_look_117 1 rfl ?_
      replace hm := xm_rd_some hm
      obtain ⟨v48, e_v48, b_v48, hm⟩ := hm
      refine x_iald (x := (Md_leaders s0)) F 7 rfl e_v48 b_v48 d_Md_look_119 ?_
      replace hm := xm_p_some hm
      obtain ⟨eo, c_o, d_o⟩ := hm
      subst eo
      refine x_sub [0, 1, 2, 3, 4, 5, 6, 7, 8, 9, 10, 11, 12, 13, 14, 15, 16, 17, 18, 19, 20] (by decide) ?_ (xe_i E (fun _ => 0) (by omega) (by omega) rfl (xz_i _) d_Md_look_120)
      rfl
    replace hm := xm_f hm c47
    by_cases c49 : p2 = (4 : Int32)
    · replace hm := xm_t hm c49
      refine x_tableIn F 121 d_Md_look_26 (by rw [c49]; decide) (by rw [c49]; decide) (by rw [c49]; rfl) (by decide) ?_
      refine x_aload_n F d_Md_look_121 2 rfl rfl ?_
      refine x_iload F d_Md_look_122 1 rfl ?_
      replace hm := xm_b_some hm
      obtain ⟨o50, k51, k52, h53, hm, c_o50, d_o50⟩ := hm
      refine x_callV (n := 1) (C := R_Md) (wr := []) F (c_Md_isNeeded l D cA n ob0 ad0 s0 o26 o50 k51 h53) kw_803 kw_800 kw_802 kw_28 kw_47 ⟨rfl, by decide, by decide, by decide +kernel⟩ rfl (by decide) (by decide) (ci := 8) rfl rfl 0 rfl [0, 1, 2, 3, 4, 5, 6, 7, 8, 9, 10, 11, 12, 13, 14, 15, 16, 17, 18, 19, 20] [] rfl rfl (by decide) (by decide) (by decide) rfl (Nat.le_of_ble_eq_true rfl) (by omega) (by omega) d_Md_look_124 (fun ad54 => ?_)
      refine x_nf (ws' := [((ob0 0), .inr (8, [.ref (ob0 1), .ref (ob0 2), .ref (ob0 3), .ref (ob0 4), .ref (ob0 5), .ref (ob0 6), .ref (ob0 7), .ref (ob0 8), .ref (ob0 9), .int (Md_end s0), .int (Md_nodes s0), .ref (ob0 10), .ref (ob0 11), .int (Md_fields s0), .ref (ob0 12), .ref (ob0 13), .int (Md_pushed s0), .ref (ob0 14), .int (Md_touches s0), .ref (ob0 15), .ref (ob0 16), .ref (ob0 17), .ref (ob0 18), .ref (ad0 0), .ref (ad0 1), .int (Md_length s0)])), ((ob0 1), .inl (cA 1, (Md_kinds s0).1, .inl (Md_kinds s0).2)), ((ob0 2), .inl (cA 0, (Md_values s0).1, .inl (Md_values s0).2)), ((ob0 3), .inl (cA 0, (Md_firsts s0).1, .inl (Md_firsts s0).2)), ((ob0 4), .inl (cA 0, (Md_manies s0).1, .inl (Md_manies s0).2)), ((ob0 5), .inl (cA 2, (Md_said s0).1, .inl (Md_said s0).2)), ((ob0 6), .inl (cA 2, (Md_marked s0).1, .inl (Md_marked s0).2)), ((ob0 7), .inl (cA 0, (Md_leaders s0).1, .inl (Md_leaders s0).2)), ((ob0 8), .inl (cA 0, (Md_trial s0).1, .inl (Md_trial s0).2)), ((ob0 9), .inl (cA 0, (Md_shown s0).1, .inl (Md_shown s0).2)), ((ob0 10), .inl (cA 0, (Md_features s0).1, .inl (Md_features s0).2)), ((ob0 11), .inl (cA 0, (Md_parts s0).1, .inl (Md_parts s0).2)), ((ob0 12), .inl (cA 0, (Md_pushedFeatures s0).1, .inl (Md_pushedFeatures s0).2)), ((ob0 13), .inl (cA 0, (Md_pushedParts s0).1, .inl (Md_pushedParts s0).2)), ((ob0 14), .inl (cA 0, (Md_touched s0).1, .inl (Md_touched s0).2)), ((ob0 15), .inl (cA 0, (Md_reached s0).1, .inl (Md_reached s0).2)), ((ob0 16), .inl (cA 0, (Md_blocks s0).1, .inl (Md_blocks s0).2)), ((ob0 17), .inl (cA 0, (Md_newBlocks s0).1, .inl (Md_newBlocks s0).2)), ((ob0 18), .inl (cA 0, (Md_places s0).1, .inl (Md_places s0).2)), ((ad0 0), .inl (cA 0, (Md_written s0).1, .inl (Md_written s0).2)), ((ad0 1), .inl (cA 0, (Md_other s0).1, .inl (Md_other s0).2))]) (st' := [.int o50]) rfl rfl ?_
      refine x_if_eq F 134 d_Md_look_127 (by decide) (fun c55 => ?_) (fun c55 => ?_)
      · replace hm := xm_t hm c55
        refine x_iconst (v := (0 : Int32)) F d_Md_look_134 (by decide) ?_
        replace hm := xm_p_some hm
        obtain ⟨eo, c_o, d_o⟩ := hm
        subst eo
        refine x_sub [0, 1, 2, 3, 4, 5, 6, 7, 8, 9, 10, 11, 12, 13, 14, 15, 16, 17, 18, 19, 20] (by decide) ?_ (xe_i E (fun _ => 0) (by omega) (by omega) rfl (xz_i _) d_Md_look_135)
        rfl
      · replace hm := xm_f hm c55
        refine x_iconst (v := (1 : Int32)) F d_Md_look_130 (by decide) ?_
        refine x_goto F 135 d_Md_look_131 (by decide) ?_
        replace hm := xm_p_some hm
        obtain ⟨eo, c_o, d_o⟩ := hm
        subst eo
        refine x_sub [0, 1, 2, 3, 4, 5, 6, 7, 8, 9, 10, 11, 12, 13, 14, 15, 16, 17, 18, 19, 20] (by decide) ?_ (xe_i E (fun _ => 0) (by omega) (by omega) rfl (xz_i _) d_Md_look_135)
        rfl
    replace hm := xm_f hm c49
    refine x_tableOut F 136 d_Md_look_26 (by have := lv_neT c37 (show (0 : Int32).toInt = 0 from by decide); have := lv_neT c39 (show (1 : Int32).toInt = 1 from by decide); have := lv_neT c43 (show (2 : Int32).toInt = 2 from by decide); have := lv_neT c47 (show (3 : Int32).toInt = 3 from by decide); have := lv_neT c49 (show (4 : Int32).toInt = 4 from by decide); omega) (by decide) ?_
    refine x_iconst (v := (-1 : Int32)) F d_Md_look_136 (by decide) ?_
    replace hm := xm_p_some hm
    obtain ⟨eo, c_o, d_o⟩ := hm
    subst eo
    refine x_sub [0, 1, 2, 3, 4, 5, 6, 7, 8, 9, 10, 11, 12, 13, 14, 15, 16, 17, 18, 19, 20] (by decide) ?_ (xe_i E (fun _ => 0) (by omega) (by omega) rfl (xz_i _) d_Md_look_137)
    rfl
  · replace hm := xm_t hm c31
    refine x_iconst (v := (-1 : Int32)) F d_Md_look_14 (by decide) ?_
    replace hm := xm_p_some hm
    obtain ⟨eo, c_o, d_o⟩ := hm
    subst eo
    refine x_sub [0, 1, 2, 3, 4, 5, 6, 7, 8, 9, 10, 11, 12, 13, 14, 15, 16, 17, 18, 19, 20] (by decide) ?_ (xe_i E (fun _ => 0) (by omega) (by omega) rfl (xz_i _) d_Md_look_15)
    rfl

noncomputable def m_Md_feature (n : Nat) (s0 : S_Md) (p0 : Int32) (p1 : Int64) (p2 : Int32) : MO (Int32) := (xm_b (m_Md_at n s0 p0 p1) (fun o20 => (xm_b (if o20 = (-1 : Int32) then (xm_p (-1 : Int32)) else (xm_b (m_Md_meant n s0 o20) (fun o38 => (xm_p o38)))) (fun j25 => (if j25 = (-1 : Int32) then (xm_p (0 : Int32)) else (xm_rd (Md_kinds s0) j25 (fun v30 => (if v30 < (3 : Int32) then (xm_p (0 : Int32)) else (if p2 < 0 then (xm_p (0 : Int32)) else (xm_rd (Md_manies s0) j25 (fun v33 => (if p2 < v33 then (xm_rd (Md_firsts s0) j25 (fun v35 => (xm_rd (Md_features s0) (v35 + p2) (fun v36 => (xm_p v36))))) else (xm_p (0 : Int32))))))))))))))
set_option maxHeartbeats 4000000 in
set_option maxRecDepth 100000 in
theorem c_Md_feature (l : Launch) (D : va_G) (cA : Nat → ClassId) (n : Nat) (ob0 ad0 : Nat → Nat) (s0 : S_Md) (p0 : Int32) (p1 : Int64) (p2 : Int32) (out : Int32) (k : KC) (hm : m_Md_feature n s0 p0 p1 p2 = some (out, k)) : XM l D cA y_Md_feature b_Md_feature 7 (some FieldType.int) 2 50 [.ref (ob0 0), .int p0, .long p1, .int p2] ((w_Md cA ob0 ad0  s0)) k (fun _ => some (.int out)) (fun ad => (w_Md cA ob0 ad0  s0)) := by
  refine x_met (cc := b_Md_feature) (nL := 7) (ret := (some FieldType.int)) R_Md (by decide) (Nat.le_of_ble_eq_true rfl) rfl (fun X F I E => ?_)
  unfold m_Md_feature at hm
  refine x_nf2 (ws' := [((ob0 0), .inr (8, [.ref (ob0 1), .ref (ob0 2), .ref (ob0 3), .ref (ob0 4), .ref (ob0 5), .ref (ob0 6), .ref (ob0 7), .ref (ob0 8), .ref (ob0 9), .int (Md_end s0), .int (Md_nodes s0), .ref (ob0 10), .ref (ob0 11), .int (Md_fields s0), .ref (ob0 12), .ref (ob0 13), .int (Md_pushed s0), .ref (ob0 14), .int (Md_touches s0), .ref (ob0 15), .ref (ob0 16), .ref (ob0 17), .ref (ob0 18), .ref (ad0 0), .ref (ad0 1), .int (Md_length s0)])), ((ob0 1), .inl (cA 1, (Md_kinds s0).1, .inl (Md_kinds s0).2)), ((ob0 2), .inl (cA 0, (Md_values s0).1, .inl (Md_values s0).2)), ((ob0 3), .inl (cA 0, (Md_firsts s0).1, .inl (Md_firsts s0).2)), ((ob0 4), .inl (cA 0, (Md_manies s0).1, .inl (Md_manies s0).2)), ((ob0 5), .inl (cA 2, (Md_said s0).1, .inl (Md_said s0).2)), ((ob0 6), .inl (cA 2, (Md_marked s0).1, .inl (Md_marked s0).2)), ((ob0 7), .inl (cA 0, (Md_leaders s0).1, .inl (Md_leaders s0).2)), ((ob0 8), .inl (cA 0, (Md_trial s0).1, .inl (Md_trial s0).2)), ((ob0 9), .inl (cA 0, (Md_shown s0).1, .inl (Md_shown s0).2)), ((ob0 10), .inl (cA 0, (Md_features s0).1, .inl (Md_features s0).2)), ((ob0 11), .inl (cA 0, (Md_parts s0).1, .inl (Md_parts s0).2)), ((ob0 12), .inl (cA 0, (Md_pushedFeatures s0).1, .inl (Md_pushedFeatures s0).2)), ((ob0 13), .inl (cA 0, (Md_pushedParts s0).1, .inl (Md_pushedParts s0).2)), ((ob0 14), .inl (cA 0, (Md_touched s0).1, .inl (Md_touched s0).2)), ((ob0 15), .inl (cA 0, (Md_reached s0).1, .inl (Md_reached s0).2)), ((ob0 16), .inl (cA 0, (Md_blocks s0).1, .inl (Md_blocks s0).2)), ((ob0 17), .inl (cA 0, (Md_newBlocks s0).1, .inl (Md_newBlocks s0).2)), ((ob0 18), .inl (cA 0, (Md_places s0).1, .inl (Md_places s0).2)), ((ad0 0), .inl (cA 0, (Md_written s0).1, .inl (Md_written s0).2)), ((ad0 1), .inl (cA 0, (Md_other s0).1, .inl (Md_other s0).2))]) (lv' := [(0, .ref (ob0 0)), (1, .int p0), (2, .long p1), (4, .int p2)]) rfl rfl ?_
  refine x_aload_n F d_Md_feature_0 0 rfl rfl ?_
  refine x_iload_n F d_Md_feature_1 1 rfl rfl ?_
  refine x_lload_n F d_Md_feature_2 2 rfl rfl ?_
  replace hm := xm_b_some hm
  obtain ⟨o20, k21, k22, h23, hm, c_o20, d_o20⟩ := hm
  refine x_callV (n := 2) (C := R_Md) (wr := []) F (c_Md_at l D cA n ob0 ad0 s0 p0 p1 o20 k21 h23) kw_815 kw_812 kw_814 kw_29 kw_47 ⟨rfl, by decide, by decide, by decide +kernel⟩ rfl (by decide) (by decide) (ci := 8) rfl rfl 0 rfl [0, 1, 2, 3, 4, 5, 6, 7, 8, 9, 10, 11, 12, 13, 14, 15, 16, 17, 18, 19, 20] [] rfl rfl (by decide) (by decide) (by decide) rfl (Nat.le_of_ble_eq_true rfl) (by omega) (by omega) d_Md_feature_3 (fun ad24 => ?_)
  refine x_nf (ws' := [((ob0 0), .inr (8, [.ref (ob0 1), .ref (ob0 2), .ref (ob0 3), .ref (ob0 4), .ref (ob0 5), .ref (ob0 6), .ref (ob0 7), .ref (ob0 8), .ref (ob0 9), .int (Md_end s0), .int (Md_nodes s0), .ref (ob0 10), .ref (ob0 11), .int (Md_fields s0), .ref (ob0 12), .ref (ob0 13), .int (Md_pushed s0), .ref (ob0 14), .int (Md_touches s0), .ref (ob0 15), .ref (ob0 16), .ref (ob0 17), .ref (ob0 18), .ref (ad0 0), .ref (ad0 1), .int (Md_length s0)])), ((ob0 1), .inl (cA 1, (Md_kinds s0).1, .inl (Md_kinds s0).2)), ((ob0 2), .inl (cA 0, (Md_values s0).1, .inl (Md_values s0).2)), ((ob0 3), .inl (cA 0, (Md_firsts s0).1, .inl (Md_firsts s0).2)), ((ob0 4), .inl (cA 0, (Md_manies s0).1, .inl (Md_manies s0).2)), ((ob0 5), .inl (cA 2, (Md_said s0).1, .inl (Md_said s0).2)), ((ob0 6), .inl (cA 2, (Md_marked s0).1, .inl (Md_marked s0).2)), ((ob0 7), .inl (cA 0, (Md_leaders s0).1, .inl (Md_leaders s0).2)), ((ob0 8), .inl (cA 0, (Md_trial s0).1, .inl (Md_trial s0).2)), ((ob0 9), .inl (cA 0, (Md_shown s0).1, .inl (Md_shown s0).2)), ((ob0 10), .inl (cA 0, (Md_features s0).1, .inl (Md_features s0).2)), ((ob0 11), .inl (cA 0, (Md_parts s0).1, .inl (Md_parts s0).2)), ((ob0 12), .inl (cA 0, (Md_pushedFeatures s0).1, .inl (Md_pushedFeatures s0).2)), ((ob0 13), .inl (cA 0, (Md_pushedParts s0).1, .inl (Md_pushedParts s0).2)), ((ob0 14), .inl (cA 0, (Md_touched s0).1, .inl (Md_touched s0).2)), ((ob0 15), .inl (cA 0, (Md_reached s0).1, .inl (Md_reached s0).2)), ((ob0 16), .inl (cA 0, (Md_blocks s0).1, .inl (Md_blocks s0).2)), ((ob0 17), .inl (cA 0, (Md_newBlocks s0).1, .inl (Md_newBlocks s0).2)), ((ob0 18), .inl (cA 0, (Md_places s0).1, .inl (Md_places s0).2)), ((ad0 0), .inl (cA 0, (Md_written s0).1, .inl (Md_written s0).2)), ((ad0 1), .inl (cA 0, (Md_other s0).1, .inl (Md_other s0).2))]) (st' := [.int o20]) rfl rfl ?_
  refine x_istore (lv' := [(5, .int o20), (0, .ref (ob0 0)), (1, .int p0), (2, .long p1), (4, .int p2)]) F d_Md_feature_6 (by decide) rfl ?_
  refine x_iload F d_Md_feature_8 0 rfl ?_
  refine x_iconst (v := (-1 : Int32)) F d_Md_feature_10 (by decide) ?_
  replace hm := xm_b_some hm
  obtain ⟨j25, k26, k27, h28, hm, c_j25, d_j25⟩ := hm
  refine x_mrg (k1 := k26) (M := 24) (v := j25) (st := []) ?_ (fun J => ?_)
  · skip
    refine x_istore (lv' := [(6, .int j25), (5, .int o20), (0, .ref (ob0 0)), (1, .int p0), (2, .long p1), (4, .int p2)]) F d_Md_feature_24 (by decide) rfl ?_
    refine x_iload F d_Md_feature_26 0 rfl ?_
    refine x_iconst (v := (-1 : Int32)) F d_Md_feature_28 (by decide) ?_
    refine x_icmp_eq F 60 d_Md_feature_29 (by decide) (fun c29 => ?_) (fun c29 => ?_)
    · replace hm := xm_t hm c29
      refine x_iconst (v := (0 : Int32)) F d_Md_feature_60 (by decide) ?_
      refine x_goto F 79 d_Md_feature_61 (by decide) ?_
      replace hm := xm_p_some hm
      obtain ⟨eo, c_o, d_o⟩ := hm
      subst eo
      refine x_sub [0, 1, 2, 3, 4, 5, 6, 7, 8, 9, 10, 11, 12, 13, 14, 15, 16, 17, 18, 19, 20] (by decide) ?_ (xe_i E (fun _ => 0) (by omega) (by omega) rfl (xz_i _) d_Md_feature_79)
      rfl
    · replace hm := xm_f hm c29
      refine x_aload_n F d_Md_feature_32 2 rfl rfl ?_
      refine x_get F ck_Md hin_Md 0 0 rfl (by decide) kw_634 rfl rfl d_Md_feature_33 ?_
      refine x_iload F d_Md_feature_36 0 rfl ?_
      replace hm := xm_rd_some hm
      obtain ⟨v30, e_v30, b_v30, hm⟩ := hm
      refine x_bald (x := (Md_kinds s0)) F 1 rfl e_v30 b_v30 d_Md_feature_38 ?_
      refine x_iconst (v := (3 : Int32)) F d_Md_feature_39 (by decide) ?_
      refine x_icmp_lt F 60 d_Md_feature_40 (by decide) (fun c31 => ?_) (fun c31 => ?_)
      · replace hm := xm_t hm c31
        refine x_iconst (v := (0 : Int32)) F d_Md_feature_60 (by decide) ?_
        refine x_goto F 79 d_Md_feature_61 (by decide) ?_
        replace hm := xm_p_some hm
        obtain ⟨eo, c_o, d_o⟩ := hm
        subst eo
        refine x_sub [0, 1, 2, 3, 4, 5, 6, 7, 8, 9, 10, 11, 12, 13, 14, 15, 16, 17, 18, 19, 20] (by decide) ?_ (xe_i E (fun _ => 0) (by omega) (by omega) rfl (xz_i _) d_Md_feature_79)
        rfl
      · replace hm := xm_f hm c31
        refine x_iload F d_Md_feature_43 5 rfl ?_
        refine x_if_lt F 60 d_Md_feature_45 (by decide) (fun c32 => ?_) (fun c32 => ?_)
        · replace hm := xm_t hm c32
          refine x_iconst (v := (0 : Int32)) F d_Md_feature_60 (by decide) ?_
          refine x_goto F 79 d_Md_feature_61 (by decide) ?_
          replace hm := xm_p_some hm
          obtain ⟨eo, c_o, d_o⟩ := hm
          subst eo
          refine x_sub [0, 1, 2, 3, 4, 5, 6, 7, 8, 9, 10, 11, 12, 13, 14, 15, 16, 17, 18, 19, 20] (by decide) ?_ (xe_i E (fun _ => 0) (by omega) (by omega) rfl (xz_i _) d_Md_feature_79)
          rfl
        · replace hm := xm_f hm c32
          refine x_iload F d_Md_feature_48 5 rfl ?_
          refine x_aload_n F d_Md_feature_50 2 rfl rfl ?_
          refine x_get F ck_Md hin_Md 0 3 rfl (by decide) kw_637 rfl rfl d_Md_feature_51 ?_
          refine x_iload F d_Md_feature_54 0 rfl ?_
          replace hm := xm_rd_some hm
          obtain ⟨v33, e_v33, b_v33, hm⟩ := hm
          refine x_iald (x := (Md_manies s0)) F 4 rfl e_v33 b_v33 d_Md_feature_56 ?_
          refine x_icmp_lt F 64 d_Md_feature_57 (by decide) (fun c34 => ?_) (fun c34 => ?_)
          · replace hm := xm_t hm c34
            refine x_aload_n F d_Md_feature_64 2 rfl rfl ?_
            refine x_get F ck_Md hin_Md 0 11 rfl (by decide) kw_645 rfl rfl d_Md_feature_65 ?_
            refine x_aload_n F d_Md_feature_68 2 rfl rfl ?_
            refine x_get F ck_Md hin_Md 0 2 rfl (by decide) kw_636 rfl rfl d_Md_feature_69 ?_
            refine x_iload F d_Md_feature_72 0 rfl ?_
            replace hm := xm_rd_some hm
            obtain ⟨v35, e_v35, b_v35, hm⟩ := hm
            refine x_iald (x := (Md_firsts s0)) F 3 rfl e_v35 b_v35 d_Md_feature_74 ?_
            refine x_iload F d_Md_feature_75 5 rfl ?_
            refine x_iadd F d_Md_feature_77 ?_
            replace hm := xm_rd_some hm
            obtain ⟨v36, e_v36, b_v36, hm⟩ := hm
            refine x_iald (x := (Md_features s0)) F 10 rfl e_v36 b_v36 d_Md_feature_78 ?_
            replace hm := xm_p_some hm
            obtain ⟨eo, c_o, d_o⟩ := hm
            subst eo
            refine x_sub [0, 1, 2, 3, 4, 5, 6, 7, 8, 9, 10, 11, 12, 13, 14, 15, 16, 17, 18, 19, 20] (by decide) ?_ (xe_i E (fun _ => 0) (by omega) (by omega) rfl (xz_i _) d_Md_feature_79)
            rfl
          · replace hm := xm_f hm c34
            refine x_iconst (v := (0 : Int32)) F d_Md_feature_60 (by decide) ?_
            refine x_goto F 79 d_Md_feature_61 (by decide) ?_
            replace hm := xm_p_some hm
            obtain ⟨eo, c_o, d_o⟩ := hm
            subst eo
            refine x_sub [0, 1, 2, 3, 4, 5, 6, 7, 8, 9, 10, 11, 12, 13, 14, 15, 16, 17, 18, 19, 20] (by decide) ?_ (xe_i E (fun _ => 0) (by omega) (by omega) rfl (xz_i _) d_Md_feature_79)
            rfl
  · replace hm := h28
    refine x_icmp_ne F 18 d_Md_feature_11 (by decide) (fun c37 => ?_) (fun c37 => ?_)
    · replace hm := xm_f hm c37
      refine x_aload_n F d_Md_feature_18 1 rfl rfl ?_
      refine x_iload F d_Md_feature_19 0 rfl ?_
      replace hm := xm_b_some hm
      obtain ⟨o38, k39, k40, h41, hm, c_o38, d_o38⟩ := hm
      refine x_callV (n := 1) (C := R_Md) (wr := []) F (c_Md_meant l D cA n ob0 ad0 s0 o20 o38 k39 h41) kw_786 kw_783 kw_785 kw_27 kw_47 ⟨rfl, by decide, by decide, by decide +kernel⟩ rfl (by decide) (by decide) (ci := 8) rfl rfl 0 rfl [0, 1, 2, 3, 4, 5, 6, 7, 8, 9, 10, 11, 12, 13, 14, 15, 16, 17, 18, 19, 20] [] rfl rfl (by decide) (by decide) (by decide) rfl (Nat.le_of_ble_eq_true rfl) (by omega) (by omega) d_Md_feature_21 (fun ad42 => ?_)
      refine x_nf (ws' := [((ob0 0), .inr (8, [.ref (ob0 1), .ref (ob0 2), .ref (ob0 3), .ref (ob0 4), .ref (ob0 5), .ref (ob0 6), .ref (ob0 7), .ref (ob0 8), .ref (ob0 9), .int (Md_end s0), .int (Md_nodes s0), .ref (ob0 10), .ref (ob0 11), .int (Md_fields s0), .ref (ob0 12), .ref (ob0 13), .int (Md_pushed s0), .ref (ob0 14), .int (Md_touches s0), .ref (ob0 15), .ref (ob0 16), .ref (ob0 17), .ref (ob0 18), .ref (ad0 0), .ref (ad0 1), .int (Md_length s0)])), ((ob0 1), .inl (cA 1, (Md_kinds s0).1, .inl (Md_kinds s0).2)), ((ob0 2), .inl (cA 0, (Md_values s0).1, .inl (Md_values s0).2)), ((ob0 3), .inl (cA 0, (Md_firsts s0).1, .inl (Md_firsts s0).2)), ((ob0 4), .inl (cA 0, (Md_manies s0).1, .inl (Md_manies s0).2)), ((ob0 5), .inl (cA 2, (Md_said s0).1, .inl (Md_said s0).2)), ((ob0 6), .inl (cA 2, (Md_marked s0).1, .inl (Md_marked s0).2)), ((ob0 7), .inl (cA 0, (Md_leaders s0).1, .inl (Md_leaders s0).2)), ((ob0 8), .inl (cA 0, (Md_trial s0).1, .inl (Md_trial s0).2)), ((ob0 9), .inl (cA 0, (Md_shown s0).1, .inl (Md_shown s0).2)), ((ob0 10), .inl (cA 0, (Md_features s0).1, .inl (Md_features s0).2)), ((ob0 11), .inl (cA 0, (Md_parts s0).1, .inl (Md_parts s0).2)), ((ob0 12), .inl (cA 0, (Md_pushedFeatures s0).1, .inl (Md_pushedFeatures s0).2)), ((ob0 13), .inl (cA 0, (Md_pushedParts s0).1, .inl (Md_pushedParts s0).2)), ((ob0 14), .inl (cA 0, (Md_touched s0).1, .inl (Md_touched s0).2)), ((ob0 15), .inl (cA 0, (Md_reached s0).1, .inl (Md_reached s0).2)), ((ob0 16), .inl (cA 0, (Md_blocks s0).1, .inl (Md_blocks s0).2)), ((ob0 17), .inl (cA 0, (Md_newBlocks s0).1, .inl (Md_newBlocks s0).2)), ((ob0 18), .inl (cA 0, (Md_places s0).1, .inl (Md_places s0).2)), ((ad0 0), .inl (cA 0, (Md_written s0).1, .inl (Md_written s0).2)), ((ad0 1), .inl (cA 0, (Md_other s0).1, .inl (Md_other s0).2))]) (st' := [.int o38]) rfl rfl ?_
      replace hm := xm_p_some hm
      obtain ⟨eo, c_o, d_o⟩ := hm
      subst eo
      exact x_cs (by omega) (by omega) J
    · replace hm := xm_t hm c37
      refine x_iconst (v := (-1 : Int32)) F d_Md_feature_14 (by decide) ?_
      refine x_goto F 24 d_Md_feature_15 (by decide) ?_
      replace hm := xm_p_some hm
      obtain ⟨eo, c_o, d_o⟩ := hm
      subst eo
      exact x_cs (by omega) (by omega) J

noncomputable def L_Md_field_24 (y1 : Int32) (y2 : Int32) (y3 : Int32) (s0 : S_Md) (n i : Nat) : Int32 → Int32 → MO (Int32 × Int32) := Nat.rec (motive := fun _ => Int32 → Int32 → MO (Int32 × Int32)) (fun _ _ => none) (fun _ ih x4 x5 => (if y3 = (-1 : Int32) then (xm_p ((x4, x5))) else (xm_rd (Md_kinds s0) y3 (fun v31 => (if v31 < (3 : Int32) then (xm_p ((x4, x5))) else (xm_rd (Md_manies s0) y3 (fun v33 => (if v33 ≤ x5 then (xm_p ((x4, x5))) else (xm_rd (Md_firsts s0) y3 (fun v35 => (xm_rd (Md_features s0) (v35 + x5) (fun v36 => (xm_b (if v36 = y2 then (xm_rd (Md_firsts s0) y3 (fun v42 => (xm_p (v42 + x5)))) else (xm_p x4)) (fun j37 => (ih j37 (x5 + 1)))))))))))))))) i
theorem L_Md_field_24_s (y1 : Int32) (y2 : Int32) (y3 : Int32) (s0 : S_Md) (n i : Nat) (x4 : Int32) (x5 : Int32) : L_Md_field_24 y1 y2 y3 s0 n (i + 1) x4 x5 = (if y3 = (-1 : Int32) then (xm_p ((x4, x5))) else (xm_rd (Md_kinds s0) y3 (fun v31 => (if v31 < (3 : Int32) then (xm_p ((x4, x5))) else (xm_rd (Md_manies s0) y3 (fun v33 => (if v33 ≤ x5 then (xm_p ((x4, x5))) else (xm_rd (Md_firsts s0) y3 (fun v35 => (xm_rd (Md_features s0) (v35 + x5) (fun v36 => (xm_b (if v36 = y2 then (xm_rd (Md_firsts s0) y3 (fun v42 => (xm_p (v42 + x5)))) else (xm_p x4)) (fun j37 => (L_Md_field_24 y1 y2 y3 s0 n i j37 (x5 + 1))))))))))))))) := rfl
noncomputable def m_Md_field (n : Nat) (s0 : S_Md) (p0 : Int32) (p1 : Int32) : MO (Int32) := (xm_b (m_Md_has n s0 p0) (fun o21 => (xm_b (if o21 = 0 then (xm_p (-1 : Int32)) else (xm_b (m_Md_meant n s0 p0) (fun o49 => (xm_p o49)))) (fun j26 => (xm_b (L_Md_field_24 p0 p1 j26 s0 n n (-1 : Int32) (0 : Int32)) (fun o43 => (xm_p (o43.1))))))))
set_option maxHeartbeats 4000000 in
set_option maxRecDepth 100000 in
theorem wl_Md_field_24 {X : XT} {l : Launch} {D : va_G} {cA : Nat → ClassId} {mc ms : Nat} (F : XF X l D cA b_Md_field 6 (some FieldType.int) R_Md 1 22 mc ms) (n : Nat) (ob0 : Nat → Nat) (y1 : Int32) (y2 : Int32) (y3 : Int32) (s0 : S_Md)  (ad0 : Nat → Nat) : ∀ (i : Nat) (x4 : Int32) (x5 : Int32)  (nc ns : Nat) (out : Int32 × Int32) (k : KC), L_Md_field_24 y1 y2 y3 s0 n i x4 x5 = some (out, k) → nc + k.1 ≤ mc → ns + k.2 ≤ ms → (∀ ad : Nat → Nat, XW X 6 ((w_Md cA ob0 ad0  s0)) (nc + k.1) (ns + k.2) 90 [(0, .ref (ob0 0)), (1, .int y1), (2, .int y2), (3, .int y3), (4, .int (out.1)), (5, .int (out.2))] []) → XW X 6 ((w_Md cA ob0 ad0  s0)) nc ns 24 [(0, .ref (ob0 0)), (1, .int y1), (2, .int y2), (3, .int y3), (4, .int x4), (5, .int x5)] [] := by
  intro i
  induction i with
  | zero =>
    intro x4 x5  nc ns out k hm
    replace hm : (none : MO (Int32 × Int32)) = some (out, k) := hm
    cases hm
  | succ i ih =>
    intro x4 x5  nc ns out k hm hc hs KX
    rw [L_Md_field_24_s] at hm
    refine x_ws (ws' := [((ob0 0), .inr (8, [.ref (ob0 1), .ref (ob0 2), .ref (ob0 3), .ref (ob0 4), .ref (ob0 5), .ref (ob0 6), .ref (ob0 7), .ref (ob0 8), .ref (ob0 9), .int (Md_end s0), .int (Md_nodes s0), .ref (ob0 10), .ref (ob0 11), .int (Md_fields s0), .ref (ob0 12), .ref (ob0 13), .int (Md_pushed s0), .ref (ob0 14), .int (Md_touches s0), .ref (ob0 15), .ref (ob0 16), .ref (ob0 17), .ref (ob0 18), .ref (ad0 0), .ref (ad0 1), .int (Md_length s0)])), ((ob0 1), .inl (cA 1, (Md_kinds s0).1, .inl (Md_kinds s0).2)), ((ob0 2), .inl (cA 0, (Md_values s0).1, .inl (Md_values s0).2)), ((ob0 3), .inl (cA 0, (Md_firsts s0).1, .inl (Md_firsts s0).2)), ((ob0 4), .inl (cA 0, (Md_manies s0).1, .inl (Md_manies s0).2)), ((ob0 5), .inl (cA 2, (Md_said s0).1, .inl (Md_said s0).2)), ((ob0 6), .inl (cA 2, (Md_marked s0).1, .inl (Md_marked s0).2)), ((ob0 7), .inl (cA 0, (Md_leaders s0).1, .inl (Md_leaders s0).2)), ((ob0 8), .inl (cA 0, (Md_trial s0).1, .inl (Md_trial s0).2)), ((ob0 9), .inl (cA 0, (Md_shown s0).1, .inl (Md_shown s0).2)), ((ob0 10), .inl (cA 0, (Md_features s0).1, .inl (Md_features s0).2)), ((ob0 11), .inl (cA 0, (Md_parts s0).1, .inl (Md_parts s0).2)), ((ob0 12), .inl (cA 0, (Md_pushedFeatures s0).1, .inl (Md_pushedFeatures s0).2)), ((ob0 13), .inl (cA 0, (Md_pushedParts s0).1, .inl (Md_pushedParts s0).2)), ((ob0 14), .inl (cA 0, (Md_touched s0).1, .inl (Md_touched s0).2)), ((ob0 15), .inl (cA 0, (Md_reached s0).1, .inl (Md_reached s0).2)), ((ob0 16), .inl (cA 0, (Md_blocks s0).1, .inl (Md_blocks s0).2)), ((ob0 17), .inl (cA 0, (Md_newBlocks s0).1, .inl (Md_newBlocks s0).2)), ((ob0 18), .inl (cA 0, (Md_places s0).1, .inl (Md_places s0).2)), ((ad0 0), .inl (cA 0, (Md_written s0).1, .inl (Md_written s0).2)), ((ad0 1), .inl (cA 0, (Md_other s0).1, .inl (Md_other s0).2))]) rfl ?_
    refine x_iload_n F d_Md_field_24 3 rfl rfl ?_
    refine x_iconst (v := (-1 : Int32)) F d_Md_field_25 (by decide) ?_
    refine x_icmp_eq F 90 d_Md_field_26 (by decide) (fun c30 => ?_) (fun c30 => ?_)
    · replace hm := xm_t hm c30
      replace hm := xm_p_some hm
      obtain ⟨eo, c_o, d_o⟩ := hm
      subst eo
      refine x_sub [0, 1, 2, 3, 4, 5, 6, 7, 8, 9, 10, 11, 12, 13, 14, 15, 16, 17, 18, 19, 20] (by decide) ?_ (x_lv [0, 1, 2, 3, 4, 5] ?_ (x_cs (by omega) (by omega) (KX (fun _ => 0))))
      · rfl
      · rfl
    · replace hm := xm_f hm c30
      refine x_aload_n F d_Md_field_29 0 rfl rfl ?_
      refine x_get F ck_Md hin_Md 0 0 rfl (by decide) kw_634 rfl rfl d_Md_field_30 ?_
      refine x_iload_n F d_Md_field_33 3 rfl rfl ?_
      replace hm := xm_rd_some hm
      obtain ⟨v31, e_v31, b_v31, hm⟩ := hm
      refine x_bald (x := (Md_kinds s0)) F 1 rfl e_v31 b_v31 d_Md_field_34 ?_
      refine x_iconst (v := (3 : Int32)) F d_Md_field_35 (by decide) ?_
      refine x_icmp_lt F 90 d_Md_field_36 (by decide) (fun c32 => ?_) (fun c32 => ?_)
      · replace hm := xm_t hm c32
        replace hm := xm_p_some hm
        obtain ⟨eo, c_o, d_o⟩ := hm
        subst eo
        refine x_sub [0, 1, 2, 3, 4, 5, 6, 7, 8, 9, 10, 11, 12, 13, 14, 15, 16, 17, 18, 19, 20] (by decide) ?_ (x_lv [0, 1, 2, 3, 4, 5] ?_ (x_cs (by omega) (by omega) (KX (fun _ => 0))))
        · rfl
        · rfl
      · replace hm := xm_f hm c32
        refine x_iload F d_Md_field_39 5 rfl ?_
        refine x_aload_n F d_Md_field_41 0 rfl rfl ?_
        refine x_get F ck_Md hin_Md 0 3 rfl (by decide) kw_637 rfl rfl d_Md_field_42 ?_
        refine x_iload_n F d_Md_field_45 3 rfl rfl ?_
        replace hm := xm_rd_some hm
        obtain ⟨v33, e_v33, b_v33, hm⟩ := hm
        refine x_iald (x := (Md_manies s0)) F 4 rfl e_v33 b_v33 d_Md_field_46 ?_
        refine x_icmp_ge F 90 d_Md_field_47 (by decide) (fun c34 => ?_) (fun c34 => ?_)
        · replace hm := xm_t hm c34
          replace hm := xm_p_some hm
          obtain ⟨eo, c_o, d_o⟩ := hm
          subst eo
          refine x_sub [0, 1, 2, 3, 4, 5, 6, 7, 8, 9, 10, 11, 12, 13, 14, 15, 16, 17, 18, 19, 20] (by decide) ?_ (x_lv [0, 1, 2, 3, 4, 5] ?_ (x_cs (by omega) (by omega) (KX (fun _ => 0))))
          · rfl
          · rfl
        · replace hm := xm_f hm c34
          refine x_aload_n F d_Md_field_50 0 rfl rfl ?_
          refine x_get F ck_Md hin_Md 0 11 rfl (by decide) kw_645 rfl rfl d_Md_field_51 ?_
          refine x_aload_n F d_Md_field_54 0 rfl rfl ?_
          refine x_get F ck_Md hin_Md 0 2 rfl (by decide) kw_636 rfl rfl d_Md_field_55 ?_
          refine x_iload_n F d_Md_field_58 3 rfl rfl ?_
          replace hm := xm_rd_some hm
          obtain ⟨v35, e_v35, b_v35, hm⟩ := hm
          refine x_iald (x := (Md_firsts s0)) F 3 rfl e_v35 b_v35 d_Md_field_59 ?_
          refine x_iload F d_Md_field_60 5 rfl ?_
          refine x_iadd F d_Md_field_62 ?_
          replace hm := xm_rd_some hm
          obtain ⟨v36, e_v36, b_v36, hm⟩ := hm
          refine x_iald (x := (Md_features s0)) F 10 rfl e_v36 b_v36 d_Md_field_63 ?_
          refine x_iload_n F d_Md_field_64 2 rfl rfl ?_
          replace hm := xm_b_some hm
          obtain ⟨j37, k38, k39, h40, hm, c_j37, d_j37⟩ := hm
          refine x_mrg (k1 := k38) (M := 82) (v := j37) (st := []) ?_ (fun J => ?_)
          · skip
            refine x_istore (lv' := [(4, .int j37), (0, .ref (ob0 0)), (1, .int y1), (2, .int y2), (3, .int y3), (5, .int x5)]) F d_Md_field_82 (by decide) rfl ?_
            refine x_iinc (v := (x5 + 1)) (lv' := [(5, .int (x5 + 1)), (4, .int j37), (0, .ref (ob0 0)), (1, .int y1), (2, .int y2), (3, .int y3)]) F d_Md_field_84 5 rfl rfl (by decide) rfl ?_
            refine x_goto F 24 d_Md_field_87 (by decide) ?_
            refine x_sub [0, 1, 2, 3, 4, 5, 6, 7, 8, 9, 10, 11, 12, 13, 14, 15, 16, 17, 18, 19, 20] (by decide) ?_ (x_lv [2, 3, 4, 5, 1, 0] ?_ (ih j37 (x5 + 1)  _ _ out k39 hm (by omega) (by omega) (fun ad => x_cs (by omega) (by omega) (KX ad))))
            · rfl
            · rfl
          · replace hm := h40
            refine x_icmp_ne F 80 d_Md_field_65 (by decide) (fun c41 => ?_) (fun c41 => ?_)
            · replace hm := xm_f hm c41
              refine x_iload F d_Md_field_80 4 rfl ?_
              replace hm := xm_p_some hm
              obtain ⟨eo, c_o, d_o⟩ := hm
              subst eo
              exact x_cs (by omega) (by omega) J
            · replace hm := xm_t hm c41
              refine x_aload_n F d_Md_field_68 0 rfl rfl ?_
              refine x_get F ck_Md hin_Md 0 2 rfl (by decide) kw_636 rfl rfl d_Md_field_69 ?_
              refine x_iload_n F d_Md_field_72 3 rfl rfl ?_
              replace hm := xm_rd_some hm
              obtain ⟨v42, e_v42, b_v42, hm⟩ := hm
              refine x_iald (x := (Md_firsts s0)) F 3 rfl e_v42 b_v42 d_Md_field_73 ?_
              refine x_iload F d_Md_field_74 5 rfl ?_
              refine x_iadd F d_Md_field_76 ?_
              refine x_goto F 82 d_Md_field_77 (by decide) ?_
              replace hm := xm_p_some hm
              obtain ⟨eo, c_o, d_o⟩ := hm
              subst eo
              exact x_cs (by omega) (by omega) J
set_option maxHeartbeats 4000000 in
set_option maxRecDepth 100000 in
theorem c_Md_field (l : Launch) (D : va_G) (cA : Nat → ClassId) (n : Nat) (ob0 ad0 : Nat → Nat) (s0 : S_Md) (p0 : Int32) (p1 : Int32) (out : Int32) (k : KC) (hm : m_Md_field n s0 p0 p1 = some (out, k)) : XM l D cA y_Md_field b_Md_field 6 (some FieldType.int) 1 22 [.ref (ob0 0), .int p0, .int p1] ((w_Md cA ob0 ad0  s0)) k (fun _ => some (.int out)) (fun ad => (w_Md cA ob0 ad0  s0)) := by
  refine x_met (cc := b_Md_field) (nL := 6) (ret := (some FieldType.int)) R_Md (by decide) (Nat.le_of_ble_eq_true rfl) rfl (fun X F I E => ?_)
  unfold m_Md_field at hm
  refine x_nf2 (ws' := [((ob0 0), .inr (8, [.ref (ob0 1), .ref (ob0 2), .ref (ob0 3), .ref (ob0 4), .ref (ob0 5), .ref (ob0 6), .ref (ob0 7), .ref (ob0 8), .ref (ob0 9), .int (Md_end s0), .int (Md_nodes s0), .ref (ob0 10), .ref (ob0 11), .int (Md_fields s0), .ref (ob0 12), .ref (ob0 13), .int (Md_pushed s0), .ref (ob0 14), .int (Md_touches s0), .ref (ob0 15), .ref (ob0 16), .ref (ob0 17), .ref (ob0 18), .ref (ad0 0), .ref (ad0 1), .int (Md_length s0)])), ((ob0 1), .inl (cA 1, (Md_kinds s0).1, .inl (Md_kinds s0).2)), ((ob0 2), .inl (cA 0, (Md_values s0).1, .inl (Md_values s0).2)), ((ob0 3), .inl (cA 0, (Md_firsts s0).1, .inl (Md_firsts s0).2)), ((ob0 4), .inl (cA 0, (Md_manies s0).1, .inl (Md_manies s0).2)), ((ob0 5), .inl (cA 2, (Md_said s0).1, .inl (Md_said s0).2)), ((ob0 6), .inl (cA 2, (Md_marked s0).1, .inl (Md_marked s0).2)), ((ob0 7), .inl (cA 0, (Md_leaders s0).1, .inl (Md_leaders s0).2)), ((ob0 8), .inl (cA 0, (Md_trial s0).1, .inl (Md_trial s0).2)), ((ob0 9), .inl (cA 0, (Md_shown s0).1, .inl (Md_shown s0).2)), ((ob0 10), .inl (cA 0, (Md_features s0).1, .inl (Md_features s0).2)), ((ob0 11), .inl (cA 0, (Md_parts s0).1, .inl (Md_parts s0).2)), ((ob0 12), .inl (cA 0, (Md_pushedFeatures s0).1, .inl (Md_pushedFeatures s0).2)), ((ob0 13), .inl (cA 0, (Md_pushedParts s0).1, .inl (Md_pushedParts s0).2)), ((ob0 14), .inl (cA 0, (Md_touched s0).1, .inl (Md_touched s0).2)), ((ob0 15), .inl (cA 0, (Md_reached s0).1, .inl (Md_reached s0).2)), ((ob0 16), .inl (cA 0, (Md_blocks s0).1, .inl (Md_blocks s0).2)), ((ob0 17), .inl (cA 0, (Md_newBlocks s0).1, .inl (Md_newBlocks s0).2)), ((ob0 18), .inl (cA 0, (Md_places s0).1, .inl (Md_places s0).2)), ((ad0 0), .inl (cA 0, (Md_written s0).1, .inl (Md_written s0).2)), ((ad0 1), .inl (cA 0, (Md_other s0).1, .inl (Md_other s0).2))]) (lv' := [(0, .ref (ob0 0)), (1, .int p0), (2, .int p1)]) rfl rfl ?_
  refine x_aload_n F d_Md_field_0 0 rfl rfl ?_
  refine x_iload_n F d_Md_field_1 1 rfl rfl ?_
  replace hm := xm_b_some hm
  obtain ⟨o21, k22, k23, h24, hm, c_o21, d_o21⟩ := hm
  refine x_callV (n := 1) (C := R_Md) (wr := []) F (c_Md_has l D cA n ob0 ad0 s0 p0 o21 k22 h24) kw_742 kw_739 kw_741 kw_20 kw_47 ⟨rfl, by decide, by decide, by decide +kernel⟩ rfl (by decide) (by decide) (ci := 8) rfl rfl 0 rfl [0, 1, 2, 3, 4, 5, 6, 7, 8, 9, 10, 11, 12, 13, 14, 15, 16, 17, 18, 19, 20] [] rfl rfl (by decide) (by decide) (by decide) rfl (Nat.le_of_ble_eq_true rfl) (by omega) (by omega) d_Md_field_2 (fun ad25 => ?_)
  refine x_nf (ws' := [((ob0 0), .inr (8, [.ref (ob0 1), .ref (ob0 2), .ref (ob0 3), .ref (ob0 4), .ref (ob0 5), .ref (ob0 6), .ref (ob0 7), .ref (ob0 8), .ref (ob0 9), .int (Md_end s0), .int (Md_nodes s0), .ref (ob0 10), .ref (ob0 11), .int (Md_fields s0), .ref (ob0 12), .ref (ob0 13), .int (Md_pushed s0), .ref (ob0 14), .int (Md_touches s0), .ref (ob0 15), .ref (ob0 16), .ref (ob0 17), .ref (ob0 18), .ref (ad0 0), .ref (ad0 1), .int (Md_length s0)])), ((ob0 1), .inl (cA 1, (Md_kinds s0).1, .inl (Md_kinds s0).2)), ((ob0 2), .inl (cA 0, (Md_values s0).1, .inl (Md_values s0).2)), ((ob0 3), .inl (cA 0, (Md_firsts s0).1, .inl (Md_firsts s0).2)), ((ob0 4), .inl (cA 0, (Md_manies s0).1, .inl (Md_manies s0).2)), ((ob0 5), .inl (cA 2, (Md_said s0).1, .inl (Md_said s0).2)), ((ob0 6), .inl (cA 2, (Md_marked s0).1, .inl (Md_marked s0).2)), ((ob0 7), .inl (cA 0, (Md_leaders s0).1, .inl (Md_leaders s0).2)), ((ob0 8), .inl (cA 0, (Md_trial s0).1, .inl (Md_trial s0).2)), ((ob0 9), .inl (cA 0, (Md_shown s0).1, .inl (Md_shown s0).2)), ((ob0 10), .inl (cA 0, (Md_features s0).1, .inl (Md_features s0).2)), ((ob0 11), .inl (cA 0, (Md_parts s0).1, .inl (Md_parts s0).2)), ((ob0 12), .inl (cA 0, (Md_pushedFeatures s0).1, .inl (Md_pushedFeatures s0).2)), ((ob0 13), .inl (cA 0, (Md_pushedParts s0).1, .inl (Md_pushedParts s0).2)), ((ob0 14), .inl (cA 0, (Md_touched s0).1, .inl (Md_touched s0).2)), ((ob0 15), .inl (cA 0, (Md_reached s0).1, .inl (Md_reached s0).2)), ((ob0 16), .inl (cA 0, (Md_blocks s0).1, .inl (Md_blocks s0).2)), ((ob0 17), .inl (cA 0, (Md_newBlocks s0).1, .inl (Md_newBlocks s0).2)), ((ob0 18), .inl (cA 0, (Md_places s0).1, .inl (Md_places s0).2)), ((ad0 0), .inl (cA 0, (Md_written s0).1, .inl (Md_written s0).2)), ((ad0 1), .inl (cA 0, (Md_other s0).1, .inl (Md_other s0).2))]) (st' := [.int o21]) rfl rfl ?_
  replace hm := xm_b_some hm
  obtain ⟨j26, k27, k28, h29, hm, c_j26, d_j26⟩ := hm
  refine x_mrg (k1 := k27) (M := 17) (v := j26) (st := []) ?_ (fun J => ?_)
  · skip
    refine x_istore_n (lv' := [(3, .int j26), (0, .ref (ob0 0)), (1, .int p0), (2, .int p1)]) F d_Md_field_17 rfl (by decide) rfl ?_
    refine x_iconst (v := (-1 : Int32)) F d_Md_field_18 (by decide) ?_
    refine x_istore (lv' := [(4, .int (-1 : Int32)), (3, .int j26), (0, .ref (ob0 0)), (1, .int p0), (2, .int p1)]) F d_Md_field_19 (by decide) rfl ?_
    refine x_iconst (v := (0 : Int32)) F d_Md_field_21 (by decide) ?_
    refine x_istore (lv' := [(5, .int (0 : Int32)), (4, .int (-1 : Int32)), (3, .int j26), (0, .ref (ob0 0)), (1, .int p0), (2, .int p1)]) F d_Md_field_22 (by decide) rfl ?_
    replace hm := xm_b_some hm
    obtain ⟨o43, k44, k45, h46, hm, c_o43, d_o43⟩ := hm
    refine x_sub [0, 1, 2, 3, 4, 5, 6, 7, 8, 9, 10, 11, 12, 13, 14, 15, 16, 17, 18, 19, 20] (by decide) ?_ (x_lv [3, 4, 5, 2, 1, 0] ?_ (wl_Md_field_24 F n ob0 p0 p1 j26 s0 ad0 n (-1 : Int32) (0 : Int32)  _ _ o43 k44 h46 (by omega) (by omega) (fun ad47 => ?_)))
    · rfl
    · rfl
    refine x_nf2 (ws' := [((ob0 0), .inr (8, [.ref (ob0 1), .ref (ob0 2), .ref (ob0 3), .ref (ob0 4), .ref (ob0 5), .ref (ob0 6), .ref (ob0 7), .ref (ob0 8), .ref (ob0 9), .int (Md_end s0), .int (Md_nodes s0), .ref (ob0 10), .ref (ob0 11), .int (Md_fields s0), .ref (ob0 12), .ref (ob0 13), .int (Md_pushed s0), .ref (ob0 14), .int (Md_touches s0), .ref (ob0 15), .ref (ob0 16), .ref (ob0 17), .ref (ob0 18), .ref (ad0 0), .ref (ad0 1), .int (Md_length s0)])), ((ob0 1), .inl (cA 1, (Md_kinds s0).1, .inl (Md_kinds s0).2)), ((ob0 2), .inl (cA 0, (Md_values s0).1, .inl (Md_values s0).2)), ((ob0 3), .inl (cA 0, (Md_firsts s0).1, .inl (Md_firsts s0).2)), ((ob0 4), .inl (cA 0, (Md_manies s0).1, .inl (Md_manies s0).2)), ((ob0 5), .inl (cA 2, (Md_said s0).1, .inl (Md_said s0).2)), ((ob0 6), .inl (cA 2, (Md_marked s0).1, .inl (Md_marked s0).2)), ((ob0 7), .inl (cA 0, (Md_leaders s0).1, .inl (Md_leaders s0).2)), ((ob0 8), .inl (cA 0, (Md_trial s0).1, .inl (Md_trial s0).2)), ((ob0 9), .inl (cA 0, (Md_shown s0).1, .inl (Md_shown s0).2)), ((ob0 10), .inl (cA 0, (Md_features s0).1, .inl (Md_features s0).2)), ((ob0 11), .inl (cA 0, (Md_parts s0).1, .inl (Md_parts s0).2)), ((ob0 12), .inl (cA 0, (Md_pushedFeatures s0).1, .inl (Md_pushedFeatures s0).2)), ((ob0 13), .inl (cA 0, (Md_pushedParts s0).1, .inl (Md_pushedParts s0).2)), ((ob0 14), .inl (cA 0, (Md_touched s0).1, .inl (Md_touched s0).2)), ((ob0 15), .inl (cA 0, (Md_reached s0).1, .inl (Md_reached s0).2)), ((ob0 16), .inl (cA 0, (Md_blocks s0).1, .inl (Md_blocks s0).2)), ((ob0 17), .inl (cA 0, (Md_newBlocks s0).1, .inl (Md_newBlocks s0).2)), ((ob0 18), .inl (cA 0, (Md_places s0).1, .inl (Md_places s0).2)), ((ad0 0), .inl (cA 0, (Md_written s0).1, .inl (Md_written s0).2)), ((ad0 1), .inl (cA 0, (Md_other s0).1, .inl (Md_other s0).2))]) (lv' := [(0, .ref (ob0 0)), (1, .int p0), (2, .int p1), (3, .int j26), (4, .int (o43.1)), (5, .int (o43.2))]) rfl rfl ?_
    refine x_iload F d_Md_field_90 4 rfl ?_
    replace hm := xm_p_some hm
    obtain ⟨eo, c_o, d_o⟩ := hm
    subst eo
    refine x_sub [0, 1, 2, 3, 4, 5, 6, 7, 8, 9, 10, 11, 12, 13, 14, 15, 16, 17, 18, 19, 20] (by decide) ?_ (xe_i E (fun _ => 0) (by omega) (by omega) rfl (xz_i _) d_Md_field_92)
    rfl
  · replace hm := h29
    refine x_if_eq F 16 d_Md_field_5 (by decide) (fun c48 => ?_) (fun c48 => ?_)
    · replace hm := xm_t hm c48
      refine x_iconst (v := (-1 : Int32)) F d_Md_field_16 (by decide) ?_
      replace hm := xm_p_some hm
      obtain ⟨eo, c_o, d_o⟩ := hm
      subst eo
      exact x_cs (by omega) (by omega) J
    · replace hm := xm_f hm c48
      refine x_aload_n F d_Md_field_8 0 rfl rfl ?_
      refine x_iload_n F d_Md_field_9 1 rfl rfl ?_
      replace hm := xm_b_some hm
      obtain ⟨o49, k50, k51, h52, hm, c_o49, d_o49⟩ := hm
      refine x_callV (n := 1) (C := R_Md) (wr := []) F (c_Md_meant l D cA n ob0 ad0 s0 p0 o49 k50 h52) kw_786 kw_783 kw_785 kw_27 kw_47 ⟨rfl, by decide, by decide, by decide +kernel⟩ rfl (by decide) (by decide) (ci := 8) rfl rfl 0 rfl [0, 1, 2, 3, 4, 5, 6, 7, 8, 9, 10, 11, 12, 13, 14, 15, 16, 17, 18, 19, 20] [] rfl rfl (by decide) (by decide) (by decide) rfl (Nat.le_of_ble_eq_true rfl) (by omega) (by omega) d_Md_field_10 (fun ad53 => ?_)
      refine x_nf (ws' := [((ob0 0), .inr (8, [.ref (ob0 1), .ref (ob0 2), .ref (ob0 3), .ref (ob0 4), .ref (ob0 5), .ref (ob0 6), .ref (ob0 7), .ref (ob0 8), .ref (ob0 9), .int (Md_end s0), .int (Md_nodes s0), .ref (ob0 10), .ref (ob0 11), .int (Md_fields s0), .ref (ob0 12), .ref (ob0 13), .int (Md_pushed s0), .ref (ob0 14), .int (Md_touches s0), .ref (ob0 15), .ref (ob0 16), .ref (ob0 17), .ref (ob0 18), .ref (ad0 0), .ref (ad0 1), .int (Md_length s0)])), ((ob0 1), .inl (cA 1, (Md_kinds s0).1, .inl (Md_kinds s0).2)), ((ob0 2), .inl (cA 0, (Md_values s0).1, .inl (Md_values s0).2)), ((ob0 3), .inl (cA 0, (Md_firsts s0).1, .inl (Md_firsts s0).2)), ((ob0 4), .inl (cA 0, (Md_manies s0).1, .inl (Md_manies s0).2)), ((ob0 5), .inl (cA 2, (Md_said s0).1, .inl (Md_said s0).2)), ((ob0 6), .inl (cA 2, (Md_marked s0).1, .inl (Md_marked s0).2)), ((ob0 7), .inl (cA 0, (Md_leaders s0).1, .inl (Md_leaders s0).2)), ((ob0 8), .inl (cA 0, (Md_trial s0).1, .inl (Md_trial s0).2)), ((ob0 9), .inl (cA 0, (Md_shown s0).1, .inl (Md_shown s0).2)), ((ob0 10), .inl (cA 0, (Md_features s0).1, .inl (Md_features s0).2)), ((ob0 11), .inl (cA 0, (Md_parts s0).1, .inl (Md_parts s0).2)), ((ob0 12), .inl (cA 0, (Md_pushedFeatures s0).1, .inl (Md_pushedFeatures s0).2)), ((ob0 13), .inl (cA 0, (Md_pushedParts s0).1, .inl (Md_pushedParts s0).2)), ((ob0 14), .inl (cA 0, (Md_touched s0).1, .inl (Md_touched s0).2)), ((ob0 15), .inl (cA 0, (Md_reached s0).1, .inl (Md_reached s0).2)), ((ob0 16), .inl (cA 0, (Md_blocks s0).1, .inl (Md_blocks s0).2)), ((ob0 17), .inl (cA 0, (Md_newBlocks s0).1, .inl (Md_newBlocks s0).2)), ((ob0 18), .inl (cA 0, (Md_places s0).1, .inl (Md_places s0).2)), ((ad0 0), .inl (cA 0, (Md_written s0).1, .inl (Md_written s0).2)), ((ad0 1), .inl (cA 0, (Md_other s0).1, .inl (Md_other s0).2))]) (st' := [.int o49]) rfl rfl ?_
      refine x_goto F 17 d_Md_field_13 (by decide) ?_
      replace hm := xm_p_some hm
      obtain ⟨eo, c_o, d_o⟩ := hm
      subst eo
      exact x_cs (by omega) (by omega) J
