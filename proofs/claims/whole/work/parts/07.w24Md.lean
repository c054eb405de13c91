noncomputable def L_Md_sweep_2  (n i : Nat) : Int32 → S_Md → MO (Int32 × S_Md) := Nat.rec (motive := fun _ => Int32 → S_Md → MO (Int32 × S_Md)) (fun _ _ => none) (fun _ ih x1 s0 => (if (Md_end s0) ≤ x1 then (xm_p ((x1, s0))) else (xm_rd (Md_kinds s0) x1 (fun v59 => (if v59 = (-1 : Int32) then (ih (x1 + 1) s0) else (xm_rd (Md_marked s0) x1 (fun v61 => (if v61 = 0 then (ih (x1 + 1) s0) else (xm_rd (Md_leaders s0) x1 (fun v63 => (if v63 = x1 then (xm_b (m_Md_isNeeded n s0 x1) (fun o65 => (xm_b (if o65 = 0 then (xm_p (0 : Int32)) else (xm_p (1 : Int32))) (fun j70 => (xm_wr (Md_trial s0) x1 j70 (fun a74 => (xm_b (m_Md_meant n ((Md_kinds s0), (Md_values s0), (Md_firsts s0), (Md_manies s0), (Md_said s0), (Md_marked s0), (Md_leaders s0), a74, (Md_shown s0), (Md_end s0), (Md_nodes s0), (Md_features s0), (Md_parts s0), (Md_fields s0), (Md_pushedFeatures s0), (Md_pushedParts s0), (Md_pushed s0), (Md_touched s0), (Md_touches s0), (Md_reached s0), (Md_blocks s0), (Md_newBlocks s0), (Md_places s0), (Md_written s0), (Md_other s0), (Md_length s0)) x1) (fun o75 => (xm_wr (Md_shown s0) x1 o75 (fun a80 => (ih (x1 + 1) ((Md_kinds s0), (Md_values s0), (Md_firsts s0), (Md_manies s0), (Md_said s0), (Md_marked s0), (Md_leaders s0), a74, a80, (Md_end s0), (Md_nodes s0), (Md_features s0), (Md_parts s0), (Md_fields s0), (Md_pushedFeatures s0), (Md_pushedParts s0), (Md_pushed s0), (Md_touched s0), (Md_touches s0), (Md_reached s0), (Md_blocks s0), (Md_newBlocks s0), (Md_places s0), (Md_written s0), (Md_other s0), (Md_length s0))))))))))))) else (ih (x1 + 1) s0)))))))))))) i
theorem L_Md_sweep_2_s  (n i : Nat) (x1 : Int32) (s0 : S_Md) : L_Md_sweep_2  n (i + 1) x1 s0 = (if (Md_end s0) ≤ x1 then (xm_p ((x1, s0))) else (xm_rd (Md_kinds s0) x1 (fun v59 => (if v59 = (-1 : Int32) then (L_Md_sweep_2  n i (x1 + 1) s0) else (xm_rd (Md_marked s0) x1 (fun v61 => (if v61 = 0 then (L_Md_sweep_2  n i (x1 + 1) s0) else (xm_rd (Md_leaders s0) x1 (fun v63 => (if v63 = x1 then (xm_b (m_Md_isNeeded n s0 x1) (fun o65 => (xm_b (if o65 = 0 then (xm_p (0 : Int32)) else (xm_p (1 : Int32))) (fun j70 => (xm_wr (Md_trial s0) x1 j70 (fun a74 => (xm_b (m_Md_meant n ((Md_kinds s0), (Md_values s0), (Md_firsts s0), (Md_manies s0), (Md_said s0), (Md_marked s0), (Md_leaders s0), a74, (Md_shown s0), (Md_end s0), (Md_nodes s0), (Md_features s0), (Md_parts s0), (Md_fields s0), (Md_pushedFeatures s0), (Md_pushedParts s0), (Md_pushed s0), (Md_touched s0), (Md_touches s0), (Md_reached s0), (Md_blocks s0), (Md_newBlocks s0), (Md_places s0), (Md_written s0), (Md_other s0), (Md_length s0)) x1) (fun o75 => (xm_wr (Md_shown s0) x1 o75 (fun a80 => (L_Md_sweep_2  n i (x1 + 1) ((Md_kinds s0), (Md_values s0), (Md_firsts s0), (Md_manies s0), (Md_said s0), (Md_marked s0), (Md_leaders s0), a74, a80, (Md_end s0), (Md_nodes s0), (Md_features s0), (Md_parts s0), (Md_fields s0), (Md_pushedFeatures s0), (Md_pushedParts s0), (Md_pushed s0), (Md_touched s0), (Md_touches s0), (Md_reached s0), (Md_blocks s0), (Md_newBlocks s0), (Md_places s0), (Md_written s0), (Md_other s0), (Md_length s0))))))))))))) else (L_Md_sweep_2  n i (x1 + 1) s0))))))))))) := rfl
noncomputable def L_Md_sweep_87 (y1 : Int32) (n i : Nat) : Int32 → S_Md → MO (Int32 × S_Md) := Nat.rec (motive := fun _ => Int32 → S_Md → MO (Int32 × S_Md)) (fun _ _ => none) (fun _ ih x2 s0 => (if (Md_end s0) ≤ x2 then (xm_p ((x2, s0))) else (xm_rd (Md_kinds s0) x2 (fun v88 => (xm_b (if v88 = (-1 : Int32) then (xm_p (0 : Int32)) else (xm_rd (Md_marked s0) x2 (fun v123 => (if v123 = 0 then (xm_p (0 : Int32)) else (xm_rd (Md_leaders s0) x2 (fun v125 => (if v125 = x2 then (xm_p (1 : Int32)) else (xm_p (0 : Int32))))))))) (fun j89 => (if j89 = 0 then (xm_b (if j89 = 0 then (xm_p (0 : Int32)) else (xm_p (1 : Int32))) (fun j94 => (xm_wr (Md_newBlocks s0) x2 j94 (fun a98 => (ih (x2 + 1) ((Md_kinds s0), (Md_values s0), (Md_firsts s0), (Md_manies s0), (Md_said s0), (Md_marked s0), (Md_leaders s0), (Md_trial s0), (Md_shown s0), (Md_end s0), (Md_nodes s0), (Md_features s0), (Md_parts s0), (Md_fields s0), (Md_pushedFeatures s0), (Md_pushedParts s0), (Md_pushed s0), (Md_touched s0), (Md_touches s0), (Md_reached s0), (Md_blocks s0), a98, (Md_places s0), (Md_written s0), (Md_other s0), (Md_length s0))))))) else (xm_rd (Md_shown s0) x2 (fun v100 => (xm_rd (Md_kinds s0) v100 (fun v101 => (xm_wr (Md_kinds s0) x2 (vp_nar .byte v101) (fun a102 => (xm_rd (Md_values s0) v100 (fun v103 => (xm_wr (Md_values s0) x2 v103 (fun a104 => (xm_rd (Md_firsts s0) v100 (fun v105 => (xm_wr (Md_firsts s0) x2 v105 (fun a106 => (xm_rd (Md_manies s0) v100 (fun v107 => (xm_wr (Md_manies s0) x2 v107 (fun a108 => (xm_rd (Md_trial s0) x2 (fun v109 => (xm_b (if v109 = (1 : Int32) then (xm_p (1 : Int32)) else (xm_p (0 : Int32))) (fun j110 => (xm_wr (Md_said s0) x2 (vp_nar .boolean j110) (fun a114 => (xm_b (if j89 = 0 then (xm_p (0 : Int32)) else (xm_p (1 : Int32))) (fun j115 => (xm_wr (Md_newBlocks s0) x2 j115 (fun a119 => (ih (x2 + 1) (a102, a104, a106, a108, a114, (Md_marked s0), (Md_leaders s0), (Md_trial s0), (Md_shown s0), (Md_end s0), ((Md_nodes s0) + (1 : Int32)), (Md_features s0), (Md_parts s0), (Md_fields s0), (Md_pushedFeatures s0), (Md_pushedParts s0), (Md_pushed s0), (Md_touched s0), (Md_touches s0), (Md_reached s0), (Md_blocks s0), a119, (Md_places s0), (Md_written s0), (Md_other s0), (Md_length s0)))))))))))))))))))))))))))))))))))))) i
theorem L_Md_sweep_87_s (y1 : Int32) (n i : Nat) (x2 : Int32) (s0 : S_Md) : L_Md_sweep_87 y1 n (i + 1) x2 s0 = (if (Md_end s0) ≤ x2 then (xm_p ((x2, s0))) else (xm_rd (Md_kinds s0) x2 (fun v88 => (xm_b (if v88 = (-1 : Int32) then (xm_p (0 : Int32)) else (xm_rd (Md_marked s0) x2 (fun v123 => (if v123 = 0 then (xm_p (0 : Int32)) else (xm_rd (Md_leaders s0) x2 (fun v125 => (if v125 = x2 then (xm_p (1 : Int32)) else (xm_p (0 : Int32))))))))) (fun j89 => (if j89 = 0 then (xm_b (if j89 = 0 then (xm_p (0 : Int32)) else (xm_p (1 : Int32))) (fun j94 => (xm_wr (Md_newBlocks s0) x2 j94 (fun a98 => (L_Md_sweep_87 y1 n i (x2 + 1) ((Md_kinds s0), (Md_values s0), (Md_firsts s0), (Md_manies s0), (Md_said s0), (Md_marked s0), (Md_leaders s0), (Md_trial s0), (Md_shown s0), (Md_end s0), (Md_nodes s0), (Md_features s0), (Md_parts s0), (Md_fields s0), (Md_pushedFeatures s0), (Md_pushedParts s0), (Md_pushed s0), (Md_touched s0), (Md_touches s0), (Md_reached s0), (Md_blocks s0), a98, (Md_places s0), (Md_written s0), (Md_other s0), (Md_length s0))))))) else (xm_rd (Md_shown s0) x2 (fun v100 => (xm_rd (Md_kinds s0) v100 (fun v101 => (xm_wr (Md_kinds s0) x2 (vp_nar .byte v101) (fun a102 => (xm_rd (Md_values s0) v100 (fun v103 => (xm_wr (Md_values s0) x2 v103 (fun a104 => (xm_rd (Md_firsts s0) v100 (fun v105 => (xm_wr (Md_firsts s0) x2 v105 (fun a106 => (xm_rd (Md_manies s0) v100 (fun v107 => (xm_wr (Md_manies s0) x2 v107 (fun a108 => (xm_rd (Md_trial s0) x2 (fun v109 => (xm_b (if v109 = (1 : Int32) then (xm_p (1 : Int32)) else (xm_p (0 : Int32))) (fun j110 => (xm_wr (Md_said s0) x2 (vp_nar .boolean j110) (fun a114 => (xm_b (if j89 = 0 then (xm_p (0 : Int32)) else (xm_p (1 : Int32))) (fun j115 => (xm_wr (Md_newBlocks s0) x2 j115 (fun a119 => (L_Md_sweep_87 y1 n i (x2 + 1) (a102, a104, a106, a108, a114, (Md_marked s0), (Md_leaders s0), (Md_trial s0), (Md_shown s0), (Md_end s0), ((Md_nodes s0) + (1 : Int32)), (Md_features s0), (Md_parts s0), (Md_fields s0), (Md_pushedFeatures s0), (Md_pushedParts s0), (Md_pushed s0), (Md_touched s0), (Md_touches s0), (Md_reached s0), (Md_blocks s0), a119, (Md_places s0), (Md_written s0), (Md_other s0), (Md_length s0))))))))))))))))))))))))))))))))))))) := rfl
noncomputable def L_Md_sweep_248 (y1 : Int32) (n i : Nat) : Int32 → S_Md → MO (Int32 × S_Md) := Nat.rec (motive := fun _ => Int32 → S_Md → MO (Int32 × S_Md)) (fun _ _ => none) (fun _ ih x2 s0 => (if (Md_end s0) ≤ x2 then (xm_p ((x2, s0))) else (xm_rd (Md_newBlocks s0) x2 (fun v133 => (if v133 = 0 then (xm_wr (Md_kinds s0) x2 (vp_nar .byte (-1 : Int32)) (fun a135 => (ih (x2 + 1) (a135, (Md_values s0), (Md_firsts s0), (Md_manies s0), (Md_said s0), (Md_marked s0), (Md_leaders s0), (Md_trial s0), (Md_shown s0), (Md_end s0), (Md_nodes s0), (Md_features s0), (Md_parts s0), (Md_fields s0), (Md_pushedFeatures s0), (Md_pushedParts s0), (Md_pushed s0), (Md_touched s0), (Md_touches s0), (Md_reached s0), (Md_blocks s0), (Md_newBlocks s0), (Md_places s0), (Md_written s0), (Md_other s0), (Md_length s0))))) else (ih (x2 + 1) s0)))))) i
theorem L_Md_sweep_248_s (y1 : Int32) (n i : Nat) (x2 : Int32) (s0 : S_Md) : L_Md_sweep_248 y1 n (i + 1) x2 s0 = (if (Md_end s0) ≤ x2 then (xm_p ((x2, s0))) else (xm_rd (Md_newBlocks s0) x2 (fun v133 => (if v133 = 0 then (xm_wr (Md_kinds s0) x2 (vp_nar .byte (-1 : Int32)) (fun a135 => (L_Md_sweep_248 y1 n i (x2 + 1) (a135, (Md_values s0), (Md_firsts s0), (Md_manies s0), (Md_said s0), (Md_marked s0), (Md_leaders s0), (Md_trial s0), (Md_shown s0), (Md_end s0), (Md_nodes s0), (Md_features s0), (Md_parts s0), (Md_fields s0), (Md_pushedFeatures s0), (Md_pushedParts s0), (Md_pushed s0), (Md_touched s0), (Md_touches s0), (Md_reached s0), (Md_blocks s0), (Md_newBlocks s0), (Md_places s0), (Md_written s0), (Md_other s0), (Md_length s0))))) else (L_Md_sweep_248 y1 n i (x2 + 1) s0))))) := rfl
noncomputable def L_Md_sweep_284 (y1 : Int32) (n i : Nat) : Int32 → S_Md → MO (Int32 × S_Md) := Nat.rec (motive := fun _ => Int32 → S_Md → MO (Int32 × S_Md)) (fun _ _ => none) (fun _ ih x2 s0 => (if (Md_end s0) ≤ x2 then (xm_p ((x2, s0))) else (xm_wr (Md_leaders s0) x2 x2 (fun a147 => (xm_wr (Md_marked s0) x2 (vp_nar .boolean (0 : Int32)) (fun a148 => (ih (x2 + 1) ((Md_kinds s0), (Md_values s0), (Md_firsts s0), (Md_manies s0), (Md_said s0), a148, a147, (Md_trial s0), (Md_shown s0), (Md_end s0), (Md_nodes s0), (Md_features s0), (Md_parts s0), (Md_fields s0), (Md_pushedFeatures s0), (Md_pushedParts s0), (Md_pushed s0), (Md_touched s0), (Md_touches s0), (Md_reached s0), (Md_blocks s0), (Md_newBlocks s0), (Md_places s0), (Md_written s0), (Md_other s0), (Md_length s0))))))))) i
theorem L_Md_sweep_284_s (y1 : Int32) (n i : Nat) (x2 : Int32) (s0 : S_Md) : L_Md_sweep_284 y1 n (i + 1) x2 s0 = (if (Md_end s0) ≤ x2 then (xm_p ((x2, s0))) else (xm_wr (Md_leaders s0) x2 x2 (fun a147 => (xm_wr (Md_marked s0) x2 (vp_nar .boolean (0 : Int32)) (fun a148 => (L_Md_sweep_284 y1 n i (x2 + 1) ((Md_kinds s0), (Md_values s0), (Md_firsts s0), (Md_manies s0), (Md_said s0), a148, a147, (Md_trial s0), (Md_shown s0), (Md_end s0), (Md_nodes s0), (Md_features s0), (Md_parts s0), (Md_fields s0), (Md_pushedFeatures s0), (Md_pushedParts s0), (Md_pushed s0), (Md_touched s0), (Md_touches s0), (Md_reached s0), (Md_blocks s0), (Md_newBlocks s0), (Md_places s0), (Md_written s0), (Md_other s0), (Md_length s0)))))))) := rfl
noncomputable def L_Md_sweep_312 (y1 : Int32) (y2 : Int32) (n i : Nat) : S_Md → MO (S_Md) := Nat.rec (motive := fun _ => S_Md → MO (S_Md)) (fun _ => none) (fun _ ih s0 => (if (Md_end s0) ≤ 0 then (xm_p (s0)) else (xm_rd (Md_kinds s0) ((Md_end s0) - (1 : Int32)) (fun v155 => (if v155 = (-1 : Int32) then (ih ((Md_kinds s0), (Md_values s0), (Md_firsts s0), (Md_manies s0), (Md_said s0), (Md_marked s0), (Md_leaders s0), (Md_trial s0), (Md_shown s0), ((Md_end s0) - (1 : Int32)), (Md_nodes s0), (Md_features s0), (Md_parts s0), (Md_fields s0), (Md_pushedFeatures s0), (Md_pushedParts s0), (Md_pushed s0), (Md_touched s0), (Md_touches s0), (Md_reached s0), (Md_blocks s0), (Md_newBlocks s0), (Md_places s0), (Md_written s0), (Md_other s0), (Md_length s0))) else (xm_p (s0))))))) i
theorem L_Md_sweep_312_s (y1 : Int32) (y2 : Int32) (n i : Nat) (s0 : S_Md) : L_Md_sweep_312 y1 y2 n (i + 1) s0 = (if (Md_end s0) ≤ 0 then (xm_p (s0)) else (xm_rd (Md_kinds s0) ((Md_end s0) - (1 : Int32)) (fun v155 => (if v155 = (-1 : Int32) then (L_Md_sweep_312 y1 y2 n i ((Md_kinds s0), (Md_values s0), (Md_firsts s0), (Md_manies s0), (Md_said s0), (Md_marked s0), (Md_leaders s0), (Md_trial s0), (Md_shown s0), ((Md_end s0) - (1 : Int32)), (Md_nodes s0), (Md_features s0), (Md_parts s0), (Md_fields s0), (Md_pushedFeatures s0), (Md_pushedParts s0), (Md_pushed s0), (Md_touched s0), (Md_touches s0), (Md_reached s0), (Md_blocks s0), (Md_newBlocks s0), (Md_places s0), (Md_written s0), (Md_other s0), (Md_length s0))) else (xm_p (s0)))))) := rfl
noncomputable def m_Md_sweep (n : Nat) (s0 : S_Md)  : MO (Int32 × S_Md) := (xm_b (L_Md_sweep_2  n n (0 : Int32) s0) (fun o82 => (xm_b (L_Md_sweep_87 (Md_nodes (o82.2)) n n (0 : Int32) ((Md_kinds (o82.2)), (Md_values (o82.2)), (Md_firsts (o82.2)), (Md_manies (o82.2)), (Md_said (o82.2)), (Md_marked (o82.2)), (Md_leaders (o82.2)), (Md_trial (o82.2)), (Md_shown (o82.2)), (Md_end (o82.2)), (0 : Int32), (Md_features (o82.2)), (Md_parts (o82.2)), (Md_fields (o82.2)), (Md_pushedFeatures (o82.2)), (Md_pushedParts (o82.2)), (Md_pushed (o82.2)), (Md_touched (o82.2)), (Md_touches (o82.2)), (Md_reached (o82.2)), (Md_blocks (o82.2)), (Md_newBlocks (o82.2)), (Md_places (o82.2)), (Md_written (o82.2)), (Md_other (o82.2)), (Md_length (o82.2)))) (fun o127 => (xm_b (L_Md_sweep_248 (Md_nodes (o82.2)) n n (0 : Int32) (o127.2)) (fun o136 => (xm_b (m_Md_pack n (o136.2)) (fun o141 => (xm_b (L_Md_sweep_284 (Md_nodes (o82.2)) n n (0 : Int32) o141) (fun o149 => (xm_b (L_Md_sweep_312 (Md_nodes (o82.2)) (o149.1) n n (o149.2)) (fun o157 => (xm_p (((Md_nodes (o82.2)) - (Md_nodes o157)), ((Md_kinds o157), (Md_values o157), (Md_firsts o157), (Md_manies o157), (Md_said o157), (Md_marked o157), (Md_leaders o157), (Md_trial o157), (Md_shown o157), (Md_end o157), (Md_nodes o157), (Md_features o157), (Md_parts o157), (Md_fields o157), (Md_pushedFeatures o157), (Md_pushedParts o157), (0 : Int32), (Md_touched o157), (0 : Int32), (Md_reached o157), (Md_blocks o157), (Md_newBlocks o157), (Md_places o157), (Md_written o157), (Md_other o157), (Md_length o157))))))))))))))))
set_option maxHeartbeats 4000000 in
set_option maxRecDepth 100000 in
theorem wl_Md_sweep_2 {X : XT} {l : Launch} {D : va_G} {cA : Nat → ClassId} {mc ms : Nat} (F : XF X l D cA b_Md_sweep 5 (some FieldType.int) R_Md 2 45 mc ms) (n : Nat) (ob0 : Nat → Nat)    : ∀ (i : Nat) (x1 : Int32) (s0 : S_Md) (ad0 : Nat → Nat) (nc ns : Nat) (out : Int32 × S_Md) (k : KC), L_Md_sweep_2  n i x1 s0 = some (out, k) → nc + k.1 ≤ mc → ns + k.2 ≤ ms → (∀ ad : Nat → Nat, XW X 5 ((w_Md cA ob0 ad  (out.2))) (nc + k.1) (ns + k.2) 75 [(0, .ref (ob0 0)), (1, .int (out.1))] []) → XW X 5 ((w_Md cA ob0 ad0  s0)) nc ns 2 [(0, .ref (ob0 0)), (1, .int x1)] [] := by
  intro i
  induction i with
  | zero =>
    intro x1 s0 ad0 nc ns out k hm
    replace hm : (none : MO (Int32 × S_Md)) = some (out, k) := hm
    cases hm
  | succ i ih =>
    intro x1 s0 ad0 nc ns out k hm hc hs KX
    rw [L_Md_sweep_2_s] at hm
    refine x_ws (ws' := [((ob0 0), .inr (8, [.ref (ob0 1), .ref (ob0 2), .ref (ob0 3), .ref (ob0 4), .ref (ob0 5), .ref (ob0 6), .ref (ob0 7), .ref (ob0 8), .ref (ob0 9), .int (Md_end s0), .int (Md_nodes s0), .ref (ob0 10), .ref (ob0 11), .int (Md_fields s0), .ref (ob0 12), .ref (ob0 13), .int (Md_pushed s0), .ref (ob0 14), .int (Md_touches s0), .ref (ob0 15), .ref (ob0 16), .ref (ob0 17), .ref (ob0 18), .ref (ad0 0), .ref (ad0 1), .int (Md_length s0)])), ((ob0 1), .inl (cA 1, (Md_kinds s0).1, .inl (Md_kinds s0).2)), ((ob0 2), .inl (cA 0, (Md_values s0).1, .inl (Md_values s0).2)), ((ob0 3), .inl (cA 0, (Md_firsts s0).1, .inl (Md_firsts s0).2)), ((ob0 4), .inl (cA 0, (Md_manies s0).1, .inl (Md_manies s0).2)), ((ob0 5), .inl (cA 2, (Md_said s0).1, .inl (Md_said s0).2)), ((ob0 6), .inl (cA 2, (Md_marked s0).1, .inl (Md_marked s0).2)), ((ob0 7), .inl (cA 0, (Md_leaders s0).1, .inl (Md_leaders s0).2)), ((ob0 8), .inl (cA 0, (Md_trial s0).1, .inl (Md_trial s0).2)), ((ob0 9), .inl (cA 0, (Md_shown s0).1, .inl (Md_shown s0).2)), ((ob0 10), .inl (cA 0, (Md_features s0).1, .inl (Md_features s0).2)), ((ob0 11), .inl (cA 0, (Md_parts s0).1, .inl (Md_parts s0).2)), ((ob0 12), .inl (cA 0, (Md_pushedFeatures s0).1, .inl (Md_pushedFeatures s0).2)), ((ob0 13), .inl (cA 0, (Md_pushedParts s0).1, .inl (Md_pushedParts s0).2)), ((ob0 14), .inl (cA 0, (Md_touched s0).1, .inl (Md_touched s0).2)), ((ob0 15), .inl (cA 0, (Md_reached s0).1, .inl (Md_reached s0).2)), ((ob0 16), .inl (cA 0, (Md_blocks s0).1, .inl (Md_blocks s0).2)), ((ob0 17), .inl (cA 0, (Md_newBlocks s0).1, .inl (Md_newBlocks s0).2)), ((ob0 18), .inl (cA 0, (Md_places s0).1, .inl (Md_places s0).2)), ((ad0 0), .inl (cA 0, (Md_written s0).1, .inl (Md_written s0).2)), ((ad0 1), .inl (cA 0, (Md_other s0).1, .inl (Md_other s0).2))]) rfl ?_
    refine x_iload_n F d_Md_sweep_2 1 rfl rfl ?_
    refine x_aload_n F d_Md_sweep_3 0 rfl rfl ?_
    refine x_get F ck_Md hin_Md 0 9 rfl (by decide) kw_643 rfl rfl d_Md_sweep_4 ?_
    refine x_icmp_ge F 75 d_Md_sweep_7 (by decide) (fun c58 => ?_) (fun c58 => ?_)
    · replace hm := xm_t hm c58
      replace hm := xm_p_some hm
      obtain ⟨eo, c_o, d_o⟩ := hm
      subst eo
      refine x_sub [0, 1, 2, 3, 4, 5, 6, 7, 8, 9, 10, 11, 12, 13, 14, 15, 16, 17, 18, 19, 20] (by decide) ?_ (x_lv [0, 1] ?_ (x_cs (by omega) (by omega) (KX ad0)))
      · rfl
      · rfl
    · replace hm := xm_f hm c58
      refine x_aload_n F d_Md_sweep_10 0 rfl rfl ?_
      refine x_get F ck_Md hin_Md 0 0 rfl (by decide) kw_634 rfl rfl d_Md_sweep_11 ?_
      refine x_iload_n F d_Md_sweep_14 1 rfl rfl ?_
      replace hm := xm_rd_some hm
      obtain ⟨v59, e_v59, b_v59, hm⟩ := hm
      refine x_bald (x := (Md_kinds s0)) F 1 rfl e_v59 b_v59 d_Md_sweep_15 ?_
      refine x_iconst (v := (-1 : Int32)) F d_Md_sweep_16 (by decide) ?_
      refine x_icmp_eq F 69 d_Md_sweep_17 (by decide) (fun c60 => ?_) (fun c60 => ?_)
      · replace hm := xm_t hm c60
        refine x_iinc (v := (x1 + 1)) (lv' := [(1, .int (x1 + 1)), (0, .ref (ob0 0))]) F d_Md_sweep_69 1 rfl rfl (by decide) rfl ?_
        refine x_goto F 2 d_Md_sweep_72 (by decide) ?_
        refine x_sub [0, 1, 2, 3, 4, 5, 6, 7, 8, 9, 10, 11, 12, 13, 14, 15, 16, 17, 18, 19, 20] (by decide) ?_ (x_lv [1, 0] ?_ (ih (x1 + 1) s0 ad0 _ _ out k hm (by omega) (by omega) (fun ad => x_cs (by omega) (by omega) (KX ad))))
        · rfl
        · rfl
      · replace hm := xm_f hm c60
        refine x_aload_n F d_Md_sweep_20 0 rfl rfl ?_
        refine x_get F ck_Md hin_Md 0 5 rfl (by decide) kw_639 rfl rfl d_Md_sweep_21 ?_
        refine x_iload_n F d_Md_sweep_24 1 rfl rfl ?_
        replace hm := xm_rd_some hm
        obtain ⟨v61, e_v61, b_v61, hm⟩ := hm
        refine x_zald (x := (Md_marked s0)) F 6 rfl e_v61 b_v61 d_Md_sweep_25 ?_
        refine x_if_eq F 69 d_Md_sweep_26 (by decide) (fun c62 => ?_) (fun c62 => ?_)
        · replace hm := xm_t hm c62
          refine x_iinc (v := (x1 + 1)) (lv' := [(1, .int (x1 + 1)), (0, .ref (ob0 0))]) F d_Md_sweep_69 1 rfl rfl (by decide) rfl ?_
          refine x_goto F 2 d_Md_sweep_72 (by decide) ?_
          refine x_sub [0, 1, 2, 3, 4, 5, 6, 7, 8, 9, 10, 11, 12, 13, 14, 15, 16, 17, 18, 19, 20] (by decide) ?_ (x_lv [1, 0] ?_ (ih (x1 + 1) s0 ad0 _ _ out k hm (by omega) (by omega) (fun ad => x_cs (by omega) (by omega) (KX ad))))
          · rfl
          · rfl
        · replace hm := xm_f hm c62
          refine x_aload_n F d_Md_sweep_29 0 rfl rfl ?_
          refine x_get F ck_Md hin_Md 0 6 rfl (by decide) kw_640 rfl rfl d_Md_sweep_30 ?_
          refine x_iload_n F d_Md_sweep_33 1 rfl rfl ?_
          replace hm := xm_rd_some hm
          obtain ⟨v63, e_v63, b_v63, hm⟩ := hm
          refine x_iald (x := (Md_leaders s0)) F 7 rfl e_v63 b_v63 d_Md_sweep_34 ?_
          refine x_iload_n F d_Md_sweep_35 1 rfl rfl ?_
          refine x_icmp_ne F 69 d_Md_sweep_36 (by decide) (fun c64 => ?_) (fun c64 => ?_)
          · replace hm := xm_f hm c64
            refine x_iinc (v := (x1 + 1)) (lv' := [(1, .int (x1 + 1)), (0, .ref (ob0 0))]) F d_Md_sweep_69 1 rfl rfl (by decide) rfl ?_
            refine x_goto F 2 d_Md_sweep_72 (by decide) ?_
            refine x_sub [0, 1, 2, 3, 4, 5, 6, 7, 8, 9, 10, 11, 12, 13, 14, 15, 16, 17, 18, 19, 20] (by decide) ?_ (x_lv [1, 0] ?_ (ih (x1 + 1) s0 ad0 _ _ out k hm (by omega) (by omega) (fun ad => x_cs (by omega) (by omega) (KX ad))))
            · rfl
            · rfl
          · replace hm := xm_t hm c64
            refine x_aload_n F d_Md_sweep_39 0 rfl rfl ?_
            refine x_get F ck_Md hin_Md 0 7 rfl (by decide) kw_641 rfl rfl d_Md_sweep_40 ?_
            refine x_iload_n F d_Md_sweep_43 1 rfl rfl ?_
            refine x_aload_n F d_Md_sweep_44 0 rfl rfl ?_
            refine x_iload_n F d_Md_sweep_45 1 rfl rfl ?_
            replace hm := xm_b_some hm
            obtain ⟨o65, k66, k67, h68, hm, c_o65, d_o65⟩ := hm
            refine x_callV (n := 1) (C := R_Md) (wr := []) F (c_Md_isNeeded l D cA n ob0 ad0 s0 x1 o65 k66 h68) kw_803 kw_800 kw_802 kw_28 kw_47 ⟨rfl, by decide, by decide, by decide +kernel⟩ rfl (by decide) (by decide) (ci := 8) rfl rfl 0 rfl [0, 1, 2, 3, 4, 5, 6, 7, 8, 9, 10, 11, 12, 13, 14, 15, 16, 17, 18, 19, 20] [] rfl rfl (by decide) (by decide) (by decide) rfl (Nat.le_of_ble_eq_true rfl) (by omega) (by omega) d_Md_sweep_46 (fun ad69 => ?_)
            refine x_nf (ws' := [((ob0 0), .inr (8, [.ref (ob0 1), .ref (ob0 2), .ref (ob0 3), .ref (ob0 4), .ref (ob0 5), .ref (ob0 6), .ref (ob0 7), .ref (ob0 8), .ref (ob0 9), .int (Md_end s0), .int (Md_nodes s0), .ref (ob0 10), .ref (ob0 11), .int (Md_fields s0), .ref (ob0 12), .ref (ob0 13), .int (Md_pushed s0), .ref (ob0 14), .int (Md_touches s0), .ref (ob0 15), .ref (ob0 16), .ref (ob0 17), .ref (ob0 18), .ref (ad0 0), .ref (ad0 1), .int (Md_length s0)])), ((ob0 1), .inl (cA 1, (Md_kinds s0).1, .inl (Md_kinds s0).2)), ((ob0 2), .inl (cA 0, (Md_values s0).1, .inl (Md_values s0).2)), ((ob0 3), .inl (cA 0, (Md_firsts s0).1, .inl (Md_firsts s0).2)), ((ob0 4), .inl (cA 0, (Md_manies s0).1, .inl (Md_manies s0).2)), ((ob0 5), .inl (cA 2, (Md_said s0).1, .inl (Md_said s0).2)), ((ob0 6), .inl (cA 2, (Md_marked s0).1, .inl (Md_marked s0).2)), ((ob0 7), .inl (cA 0, (Md_leaders s0).1, .inl (Md_leaders s0).2)), ((ob0 8), .inl (cA 0, (Md_trial s0).1, .inl (Md_trial s0).2)), ((ob0 9), .inl (cA 0, (Md_shown s0).1, .inl (Md_shown s0).2)), ((ob0 10), .inl (cA 0, (Md_features s0).1, .inl (Md_features s0).2)), ((ob0 11), .inl (cA 0, (Md_parts s0).1, .inl (Md_parts s0).2)), ((ob0 12), .inl (cA 0, (Md_pushedFeatures s0).1, .inl (Md_pushedFeatures s0).2)), ((ob0 13), .inl (cA 0, (Md_pushedParts s0).1, .inl (Md_pushedParts s0).2)), ((ob0 14), .inl (cA 0, (Md_touched s0).1, .inl (Md_touched s0).2)), ((ob0 15), .inl (cA 0, (Md_reached s0).1, .inl (Md_reached s0).2)), ((ob0 16), .inl (cA 0, (Md_blocks s0).1, .inl (Md_blocks s0).2)), ((ob0 17), .inl (cA 0, (Md_newBlocks s0).1, .inl (Md_newBlocks s0).2)), ((ob0 18), .inl (cA 0, (Md_places s0).1, .inl (Md_places s0).2)), ((ad0 0), .inl (cA 0, (Md_written s0).1, .inl (Md_written s0).2)), ((ad0 1), .inl (cA 0, (Md_other s0).1, .inl (Md_other s0).2))]) (st' := [.int o65, .int x1, .ref (ob0 8)]) rfl rfl ?_
            replace hm := xm_b_some hm
            obtain ⟨j70, k71, k72, h73, hm, c_j70, d_j70⟩ := hm
            refine x_mrg (k1 := k71) (M := 57) (v := j70) (st := [.int x1, .ref (ob0 8)]) ?_ (fun J => ?_)
            · skip
              replace hm := xm_wr_some hm
              obtain ⟨a74, e_a74, b_a74, hm⟩ := hm
              refine x_iast (x := (Md_trial s0)) (x' := a74) (ws' := [((ob0 0), .inr (8, [.ref (ob0 1), .ref (ob0 2), .ref (ob0 3), .ref (ob0 4), .ref (ob0 5), .ref (ob0 6), .ref (ob0 7), .ref (ob0 8), .ref (ob0 9), .int (Md_end s0), .int (Md_nodes s0), .ref (ob0 10), .ref (ob0 11), .int (Md_fields s0), .ref (ob0 12), .ref (ob0 13), .int (Md_pushed s0), .ref (ob0 14), .int (Md_touches s0), .ref (ob0 15), .ref (ob0 16), .ref (ob0 17), .ref (ob0 18), .ref (ad0 0), .ref (ad0 1), .int (Md_length s0)])), ((ob0 1), .inl (cA 1, (Md_kinds s0).1, .inl (Md_kinds s0).2)), ((ob0 2), .inl (cA 0, (Md_values s0).1, .inl (Md_values s0).2)), ((ob0 3), .inl (cA 0, (Md_firsts s0).1, .inl (Md_firsts s0).2)), ((ob0 4), .inl (cA 0, (Md_manies s0).1, .inl (Md_manies s0).2)), ((ob0 5), .inl (cA 2, (Md_said s0).1, .inl (Md_said s0).2)), ((ob0 6), .inl (cA 2, (Md_marked s0).1, .inl (Md_marked s0).2)), ((ob0 7), .inl (cA 0, (Md_leaders s0).1, .inl (Md_leaders s0).2)), ((ob0 8), .inl (cA 0, a74.1, .inl a74.2)), ((ob0 9), .inl (cA 0, (Md_shown s0).1, .inl (Md_shown s0).2)), ((ob0 10), .inl (cA 0, (Md_features s0).1, .inl (Md_features s0).2)), ((ob0 11), .inl (cA 0, (Md_parts s0).1, .inl (Md_parts s0).2)), ((ob0 12), .inl (cA 0, (Md_pushedFeatures s0).1, .inl (Md_pushedFeatures s0).2)), ((ob0 13), .inl (cA 0, (Md_pushedParts s0).1, .inl (Md_pushedParts s0).2)), ((ob0 14), .inl (cA 0, (Md_touched s0).1, .inl (Md_touched s0).2)), ((ob0 15), .inl (cA 0, (Md_reached s0).1, .inl (Md_reached s0).2)), ((ob0 16), .inl (cA 0, (Md_blocks s0).1, .inl (Md_blocks s0).2)), ((ob0 17), .inl (cA 0, (Md_newBlocks s0).1, .inl (Md_newBlocks s0).2)), ((ob0 18), .inl (cA 0, (Md_places s0).1, .inl (Md_places s0).2)), ((ad0 0), .inl (cA 0, (Md_written s0).1, .inl (Md_written s0).2)), ((ad0 1), .inl (cA 0, (Md_other s0).1, .inl (Md_other s0).2))]) F 8 rfl e_a74 b_a74 rfl d_Md_sweep_57 ?_
              refine x_aload_n F d_Md_sweep_58 0 rfl rfl ?_
              refine x_get F ck_Md hin_Md 0 8 rfl (by decide) kw_642 rfl rfl d_Md_sweep_59 ?_
              refine x_iload_n F d_Md_sweep_62 1 rfl rfl ?_
              refine x_aload_n F d_Md_sweep_63 0 rfl rfl ?_
              refine x_iload_n F d_Md_sweep_64 1 rfl rfl ?_
              replace hm := xm_b_some hm
              obtain ⟨o75, k76, k77, h78, hm, c_o75, d_o75⟩ := hm
              refine x_callV (n := 1) (C := R_Md) (wr := []) F (c_Md_meant l D cA n ob0 ad0 ((Md_kinds s0), (Md_values s0), (Md_firsts s0), (Md_manies s0), (Md_said s0), (Md_marked s0), (Md_leaders s0), a74, (Md_shown s0), (Md_end s0), (Md_nodes s0), (Md_features s0), (Md_parts s0), (Md_fields s0), (Md_pushedFeatures s0), (Md_pushedParts s0), (Md_pushed s0), (Md_touched s0), (Md_touches s0), (Md_reached s0), (Md_blocks s0), (Md_newBlocks s0), (Md_places s0), (Md_written s0), (Md_other s0), (Md_length s0)) x1 o75 k76 h78) kw_786 kw_783 kw_785 kw_27 kw_47 ⟨rfl, by decide, by decide, by decide +kernel⟩ rfl (by decide) (by decide) (ci := 8) rfl rfl 0 rfl [0, 1, 2, 3, 4, 5, 6, 7, 8, 9, 10, 11, 12, 13, 14, 15, 16, 17, 18, 19, 20] [] rfl rfl (by decide) (by decide) (by decide) rfl (Nat.le_of_ble_eq_true rfl) (by omega) (by omega) d_Md_sweep_65 (fun ad79 => ?_)
              refine x_nf (ws' := [((ob0 0), .inr (8, [.ref (ob0 1), .ref (ob0 2), .ref (ob0 3), .ref (ob0 4), .ref (ob0 5), .ref (ob0 6), .ref (ob0 7), .ref (ob0 8), .ref (ob0 9), .int (Md_end s0), .int (Md_nodes s0), .ref (ob0 10), .ref (ob0 11), .int (Md_fields s0), .ref (ob0 12), .ref (ob0 13), .int (Md_pushed s0), .ref (ob0 14), .int (Md_touches s0), .ref (ob0 15), .ref (ob0 16), .ref (ob0 17), .ref (ob0 18), .ref (ad0 0), .ref (ad0 1), .int (Md_length s0)])), ((ob0 1), .inl (cA 1, (Md_kinds s0).1, .inl (Md_kinds s0).2)), ((ob0 2), .inl (cA 0, (Md_values s0).1, .inl (Md_values s0).2)), ((ob0 3), .inl (cA 0, (Md_firsts s0).1, .inl (Md_firsts s0).2)), ((ob0 4), .inl (cA 0, (Md_manies s0).1, .inl (Md_manies s0).2)), ((ob0 5), .inl (cA 2, (Md_said s0).1, .inl (Md_said s0).2)), ((ob0 6), .inl (cA 2, (Md_marked s0).1, .inl (Md_marked s0).2)), ((ob0 7), .inl (cA 0, (Md_leaders s0).1, .inl (Md_leaders s0).2)), ((ob0 8), .inl (cA 0, a74.1, .inl a74.2)), ((ob0 9), .inl (cA 0, (Md_shown s0).1, .inl (Md_shown s0).2)), ((ob0 10), .inl (cA 0, (Md_features s0).1, .inl (Md_features s0).2)), ((ob0 11), .inl (cA 0, (Md_parts s0).1, .inl (Md_parts s0).2)), ((ob0 12), .inl (cA 0, (Md_pushedFeatures s0).1, .inl (Md_pushedFeatures s0).2)), ((ob0 13), .inl (cA 0, (Md_pushedParts s0).1, .inl (Md_pushedParts s0).2)), ((ob0 14), .inl (cA 0, (Md_touched s0).1, .inl (Md_touched s0).2)), ((ob0 15), .inl (cA 0, (Md_reached s0).1, .inl (Md_reached s0).2)), ((ob0 16), .inl (cA 0, (Md_blocks s0).1, .inl (Md_blocks s0).2)), ((ob0 17), .inl (cA 0, (Md_newBlocks s0).1, .inl (Md_newBlocks s0).2)), ((ob0 18), .inl (cA 0, (Md_places s0).1, .inl (Md_places s0).2)), ((ad0 0), .inl (cA 0, (Md_written s0).1, .inl (Md_written s0).2)), ((ad0 1), .inl (cA 0, (Md_other s0).1, .inl (Md_other s0).2))]) (st' := [.int o75, .int x1, .ref (ob0 9)]) rfl rfl ?_
              replace hm := xm_wr_some hm
              obtain ⟨a80, e_a80, b_a80, hm⟩ := hm
              refine x_iast (x := (Md_shown s0)) (x' := a80) (ws' := [((ob0 0), .inr (8, [.ref (ob0 1), .ref (ob0 2), .ref (ob0 3), .ref (ob0 4), .ref (ob0 5), .ref (ob0 6), .ref (ob0 7), .ref (ob0 8), .ref (ob0 9), .int (Md_end s0), .int (Md_nodes s0), .ref (ob0 10), .ref (ob0 11), .int (Md_fields s0), .ref (ob0 12), .ref (ob0 13), .int (Md_pushed s0), .ref (ob0 14), .int (Md_touches s0), .ref (ob0 15), .ref (ob0 16), .ref (ob0 17), .ref (ob0 18), .ref (ad0 0), .ref (ad0 1), .int (Md_length s0)])), ((ob0 1), .inl (cA 1, (Md_kinds s0).1, .inl (Md_kinds s0).2)), ((ob0 2), .inl (cA 0, (Md_values s0).1, .inl (Md_values s0).2)), ((ob0 3), .inl (cA 0, (Md_firsts s0).1, .inl (Md_firsts s0).2)), ((ob0 4), .inl (cA 0, (Md_manies s0).1, .inl (Md_manies s0).2)), ((ob0 5), .inl (cA 2, (Md_said s0).1, .inl (Md_said s0).2)), ((ob0 6), .inl (cA 2, (Md_marked s0).1, .inl (Md_marked s0).2)), ((ob0 7), .inl (cA 0, (Md_leaders s0).1, .inl (Md_leaders s0).2)), ((ob0 8), .inl (cA 0, a74.1, .inl a74.2)), ((ob0 9), .inl (cA 0, a80.1, .inl a80.2)), ((ob0 10), .inl (cA 0, (Md_features s0).1, .inl (Md_features s0).2)), ((ob0 11), .inl (cA 0, (Md_parts s0).1, .inl (Md_parts s0).2)), ((ob0 12), .inl (cA 0, (Md_pushedFeatures s0).1, .inl (Md_pushedFeatures s0).2)), ((ob0 13), .inl (cA 0, (Md_pushedParts s0).1, .inl (Md_pushedParts s0).2)), ((ob0 14), .inl (cA 0, (Md_touched s0).1, .inl (Md_touched s0).2)), ((ob0 15), .inl (cA 0, (Md_reached s0).1, .inl (Md_reached s0).2)), ((ob0 16), .inl (cA 0, (Md_blocks s0).1, .inl (Md_blocks s0).2)), ((ob0 17), .inl (cA 0, (Md_newBlocks s0).1, .inl (Md_newBlocks s0).2)), ((ob0 18), .inl (cA 0, (Md_places s0).1, .inl (Md_places s0).2)), ((ad0 0), .inl (cA 0, (Md_written s0).1, .inl (Md_written s0).2)), ((ad0 1), .inl (cA 0, (Md_other s0).1, .inl (Md_other s0).2))]) F 9 rfl e_a80 b_a80 rfl d_Md_sweep_68 ?_
              refine x_iinc (v := (x1 + 1)) (lv' := [(1, .int (x1 + 1)), (0, .ref (ob0 0))]) F d_Md_sweep_69 1 rfl rfl (by decide) rfl ?_
              refine x_goto F 2 d_Md_sweep_72 (by decide) ?_
              refine x_sub [0, 1, 2, 3, 4, 5, 6, 7, 8, 9, 10, 11, 12, 13, 14, 15, 16, 17, 18, 19, 20] (by decide) ?_ (x_lv [1, 0] ?_ (ih (x1 + 1) ((Md_kinds s0), (Md_values s0), (Md_firsts s0), (Md_manies s0), (Md_said s0), (Md_marked s0), (Md_leaders s0), a74, a80, (Md_end s0), (Md_nodes s0), (Md_features s0), (Md_parts s0), (Md_fields s0), (Md_pushedFeatures s0), (Md_pushedParts s0), (Md_pushed s0), (Md_touched s0), (Md_touches s0), (Md_reached s0), (Md_blocks s0), (Md_newBlocks s0), (Md_places s0), (Md_written s0), (Md_other s0), (Md_length s0)) ad0 _ _ out k77 hm (by omega) (by omega) (fun ad => x_cs (by omega) (by omega) (KX ad))))
              · rfl
              · rfl
            · replace hm := h73
              refine x_if_eq F 56 d_Md_sweep_49 (by decide) (fun c81 => ?_) (fun c81 => ?_)
              · replace hm := xm_t hm c81
                refine x_iconst (v := (0 : Int32)) F d_Md_sweep_56 (by decide) ?_
                replace hm := xm_p_some hm
                obtain ⟨eo, c_o, d_o⟩ := hm
                subst eo
                exact x_cs (by omega) (by omega) J
              · replace hm := xm_f hm c81
                refine x_iconst (v := (1 : Int32)) F d_Md_sweep_52 (by decide) ?_
                refine x_goto F 57 d_Md_sweep_53 (by decide) ?_
                replace hm := xm_p_some hm
                obtain ⟨eo, c_o, d_o⟩ := hm
                subst eo
                exact x_cs (by omega) (by omega) J
set_option maxHeartbeats 4000000 in
set_option maxRecDepth 100000 in
theorem wl_Md_sweep_87 {X : XT} {l : Launch} {D : va_G} {cA : Nat → ClassId} {mc ms : Nat} (F : XF X l D cA b_Md_sweep 5 (some FieldType.int) R_Md 2 45 mc ms) (n : Nat) (ob0 : Nat → Nat) (y1 : Int32)   : ∀ (i : Nat) (x2 : Int32) (s0 : S_Md) (ad0 : Nat → Nat) (nc ns : Nat) (out : Int32 × S_Md) (k : KC), L_Md_sweep_87 y1 n i x2 s0 = some (out, k) → nc + k.1 ≤ mc → ns + k.2 ≤ ms → (∀ ad : Nat → Nat, XW X 5 ((w_Md cA ob0 ad  (out.2))) (nc + k.1) (ns + k.2) 246 [(0, .ref (ob0 0)), (1, .int y1), (2, .int (out.1))] []) → XW X 5 ((w_Md cA ob0 ad0  s0)) nc ns 87 [(0, .ref (ob0 0)), (1, .int y1), (2, .int x2)] [] := by
  intro i
  induction i with
  | zero =>
    intro x2 s0 ad0 nc ns out k hm
    replace hm : (none : MO (Int32 × S_Md)) = some (out, k) := hm
    cases hm
  | succ i ih =>
    intro x2 s0 ad0 nc ns out k hm hc hs KX
    rw [L_Md_sweep_87_s] at hm
    refine x_ws (ws' := [((ob0 0), .inr (8, [.ref (ob0 1), .ref (ob0 2), .ref (ob0 3), .ref (ob0 4), .ref (ob0 5), .ref (ob0 6), .ref (ob0 7), .ref (ob0 8), .ref (ob0 9), .int (Md_end s0), .int (Md_nodes s0), .ref (ob0 10), .ref (ob0 11), .int (Md_fields s0), .ref (ob0 12), .ref (ob0 13), .int (Md_pushed s0), .ref (ob0 14), .int (Md_touches s0), .ref (ob0 15), .ref (ob0 16), .ref (ob0 17), .ref (ob0 18), .ref (ad0 0), .ref (ad0 1), .int (Md_length s0)])), ((ob0 1), .inl (cA 1, (Md_kinds s0).1, .inl (Md_kinds s0).2)), ((ob0 2), .inl (cA 0, (Md_values s0).1, .inl (Md_values s0).2)), ((ob0 3), .inl (cA 0, (Md_firsts s0).1, .inl (Md_firsts s0).2)), ((ob0 4), .inl (cA 0, (Md_manies s0).1, .inl (Md_manies s0).2)), ((ob0 5), .inl (cA 2, (Md_said s0).1, .inl (Md_said s0).2)), ((ob0 6), .inl (cA 2, (Md_marked s0).1, .inl (Md_marked s0).2)), ((ob0 7), .inl (cA 0, (Md_leaders s0).1, .inl (Md_leaders s0).2)), ((ob0 8), .inl (cA 0, (Md_trial s0).1, .inl (Md_trial s0).2)), ((ob0 9), .inl (cA 0, (Md_shown s0).1, .inl (Md_shown s0).2)), ((ob0 10), .inl (cA 0, (Md_features s0).1, .inl (Md_features s0).2)), ((ob0 11), .inl (cA 0, (Md_parts s0).1, .inl (Md_parts s0).2)), ((ob0 12), .inl (cA 0, (Md_pushedFeatures s0).1, .inl (Md_pushedFeatures s0).2)), ((ob0 13), .inl (cA 0, (Md_pushedParts s0).1, .inl (Md_pushedParts s0).2)), ((ob0 14), .inl (cA 0, (Md_touched s0).1, .inl (Md_touched s0).2)), ((ob0 15), .inl (cA 0, (Md_reached s0).1, .inl (Md_reached s0).2)), ((ob0 16), .inl (cA 0, (Md_blocks s0).1, .inl (Md_blocks s0).2)), ((ob0 17), .inl (cA 0, (Md_newBlocks s0).1, .inl (Md_newBlocks s0).2)), ((ob0 18), .inl (cA 0, (Md_places s0).1, .inl (Md_places s0).2)), ((ad0 0), .inl (cA 0, (Md_written s0).1, .inl (Md_written s0).2)), ((ad0 1), .inl (cA 0, (Md_other s0).1, .inl (Md_other s0).2))]) rfl ?_
    refine x_iload_n F d_Md_sweep_87 2 rfl rfl ?_
    refine x_aload_n F d_Md_sweep_88 0 rfl rfl ?_
    refine x_get F ck_Md hin_Md 0 9 rfl (by decide) kw_643 rfl rfl d_Md_sweep_89 ?_
    refine x_icmp_ge F 246 d_Md_sweep_92 (by decide) (fun c87 => ?_) (fun c87 => ?_)
    · replace hm := xm_t hm c87
      replace hm := xm_p_some hm
      obtain ⟨eo, c_o, d_o⟩ := hm
      subst eo
      refine x_sub [0, 1, 2, 3, 4, 5, 6, 7, 8, 9, 10, 11, 12, 13, 14, 15, 16, 17, 18, 19, 20] (by decide) ?_ (x_lv [0, 1, 2] ?_ (x_cs (by omega) (by omega) (KX ad0)))
      · rfl
      · rfl
    · replace hm := xm_f hm c87
      refine x_aload_n F d_Md_sweep_95 0 rfl rfl ?_
      refine x_get F ck_Md hin_Md 0 0 rfl (by decide) kw_634 rfl rfl d_Md_sweep_96 ?_
      refine x_iload_n F d_Md_sweep_99 2 rfl rfl ?_
      replace hm := xm_rd_some hm
      obtain ⟨v88, e_v88, b_v88, hm⟩ := hm
      refine x_bald (x := (Md_kinds s0)) F 1 rfl e_v88 b_v88 d_Md_sweep_100 ?_
      refine x_iconst (v := (-1 : Int32)) F d_Md_sweep_101 (by decide) ?_
      replace hm := xm_b_some hm
      obtain ⟨j89, k90, k91, h92, hm, c_j89, d_j89⟩ := hm
      refine x_mrg (k1 := k90) (M := 129) (v := j89) (st := []) ?_ (fun J => ?_)
      · skip
        refine x_istore_n (lv' := [(3, .int j89), (0, .ref (ob0 0)), (1, .int y1), (2, .int x2)]) F d_Md_sweep_129 rfl (by decide) rfl ?_
        refine x_iload_n F d_Md_sweep_130 0 rfl rfl ?_
        refine x_if_eq F 225 d_Md_sweep_131 (by decide) (fun c93 => ?_) (fun c93 => ?_)
        · replace hm := xm_t hm c93
          refine x_aload_n F d_Md_sweep_225 1 rfl rfl ?_
          refine x_get F ck_Md hin_Md 0 21 rfl (by decide) kw_655 rfl rfl d_Md_sweep_226 ?_
          refine x_iload_n F d_Md_sweep_229 3 rfl rfl ?_
          refine x_iload_n F d_Md_sweep_230 0 rfl rfl ?_
          replace hm := xm_b_some hm
          obtain ⟨j94, k95, k96, h97, hm, c_j94, d_j94⟩ := hm
          refine x_mrg (k1 := k95) (M := 239) (v := j94) (st := [.int x2, .ref (ob0 17)]) ?_ (fun J => ?_)
          · skip
            replace hm := xm_wr_some hm
            obtain ⟨a98, e_a98, b_a98, hm⟩ := hm
            refine x_iast (x := (Md_newBlocks s0)) (x' := a98) (ws' := [((ob0 0), .inr (8, [.ref (ob0 1), .ref (ob0 2), .ref (ob0 3), .ref (ob0 4), .ref (ob0 5), .ref (ob0 6), .ref (ob0 7), .ref (ob0 8), .ref (ob0 9), .int (Md_end s0), .int (Md_nodes s0), .ref (ob0 10), .ref (ob0 11), .int (Md_fields s0), .ref (ob0 12), .ref (ob0 13), .int (Md_pushed s0), .ref (ob0 14), .int (Md_touches s0), .ref (ob0 15), .ref (ob0 16), .ref (ob0 17), .ref (ob0 18), .ref (ad0 0), .ref (ad0 1), .int (Md_length s0)])), ((ob0 1), .inl (cA 1, (Md_kinds s0).1, .inl (Md_kinds s0).2)), ((ob0 2), .inl (cA 0, (Md_values s0).1, .inl (Md_values s0).2)), ((ob0 3), .inl (cA 0, (Md_firsts s0).1, .inl (Md_firsts s0).2)), ((ob0 4), .inl (cA 0, (Md_manies s0).1, .inl (Md_manies s0).2)), ((ob0 5), .inl (cA 2, (Md_said s0).1, .inl (Md_said s0).2)), ((ob0 6), .inl (cA 2, (Md_marked s0).1, .inl (Md_marked s0).2)), ((ob0 7), .inl (cA 0, (Md_leaders s0).1, .inl (Md_leaders s0).2)), ((ob0 8), .inl (cA 0, (Md_trial s0).1, .inl (Md_trial s0).2)), ((ob0 9), .inl (cA 0, (Md_shown s0).1, .inl (Md_shown s0).2)), ((ob0 10), .inl (cA 0, (Md_features s0).1, .inl (Md_features s0).2)), ((ob0 11), .inl (cA 0, (Md_parts s0).1, .inl (Md_parts s0).2)), ((ob0 12), .inl (cA 0, (Md_pushedFeatures s0).1, .inl (Md_pushedFeatures s0).2)), ((ob0 13), .inl (cA 0, (Md_pushedParts s0).1, .inl (Md_pushedParts s0).2)), ((ob0 14), .inl (cA 0, (Md_touched s0).1, .inl (Md_touched s0).2)), ((ob0 15), .inl (cA 0, (Md_reached s0).1, .inl (Md_reached s0).2)), ((ob0 16), .inl (cA 0, (Md_blocks s0).1, .inl (Md_blocks s0).2)), ((ob0 17), .inl (cA 0, a98.1, .inl a98.2)), ((ob0 18), .inl (cA 0, (Md_places s0).1, .inl (Md_places s0).2)), ((ad0 0), .inl (cA 0, (Md_written s0).1, .inl (Md_written s0).2)), ((ad0 1), .inl (cA 0, (Md_other s0).1, .inl (Md_other s0).2))]) F 17 rfl e_a98 b_a98 rfl d_Md_sweep_239 ?_
            refine x_iinc (v := (x2 + 1)) (lv' := [(2, .int (x2 + 1)), (3, .int j89), (0, .ref (ob0 0)), (1, .int y1)]) F d_Md_sweep_240 3 rfl rfl (by decide) rfl ?_
            refine x_goto F 87 d_Md_sweep_243 (by decide) ?_
            refine x_sub [0, 1, 2, 3, 4, 5, 6, 7, 8, 9, 10, 11, 12, 13, 14, 15, 16, 17, 18, 19, 20] (by decide) ?_ (x_lv [2, 3, 0] ?_ (ih (x2 + 1) ((Md_kinds s0), (Md_values s0), (Md_firsts s0), (Md_manies s0), (Md_said s0), (Md_marked s0), (Md_leaders s0), (Md_trial s0), (Md_shown s0), (Md_end s0), (Md_nodes s0), (Md_features s0), (Md_parts s0), (Md_fields s0), (Md_pushedFeatures s0), (Md_pushedParts s0), (Md_pushed s0), (Md_touched s0), (Md_touches s0), (Md_reached s0), (Md_blocks s0), a98, (Md_places s0), (Md_written s0), (Md_other s0), (Md_length s0)) ad0 _ _ out k96 hm (by omega) (by omega) (fun ad => x_cs (by omega) (by omega) (KX ad))))
            · rfl
            · rfl
          · replace hm := h97
            refine x_if_eq F 238 d_Md_sweep_231 (by decide) (fun c99 => ?_) (fun c99 => ?_)
            · replace hm := xm_t hm c99
              refine x_iconst (v := (0 : Int32)) F d_Md_sweep_238 (by decide) ?_
              replace hm := xm_p_some hm
              obtain ⟨eo, c_o, d_o⟩ := hm
              subst eo
              exact x_cs (by omega) (by omega) J
            · replace hm := xm_f hm c99
              refine x_iconst (v := (1 : Int32)) F d_Md_sweep_234 (by decide) ?_
              refine x_goto F 239 d_Md_sweep_235 (by decide) ?_
              replace hm := xm_p_some hm
              obtain ⟨eo, c_o, d_o⟩ := hm
              subst eo
              exact x_cs (by omega) (by omega) J
        · replace hm := xm_f hm c93
          refine x_aload_n F d_Md_sweep_134 1 rfl rfl ?_
          refine x_get F ck_Md hin_Md 0 8 rfl (by decide) kw_642 rfl rfl d_Md_sweep_135 ?_
          refine x_iload_n F d_Md_sweep_138 3 rfl rfl ?_
          replace hm := xm_rd_some hm
          obtain ⟨v100, e_v100, b_v100, hm⟩ := hm
          refine x_iald (x := (Md_shown s0)) F 9 rfl e_v100 b_v100 d_Md_sweep_139 ?_
          refine x_istore (lv' := [(4, .int v100), (3, .int j89), (0, .ref (ob0 0)), (1, .int y1), (2, .int x2)]) F d_Md_sweep_140 (by decide) rfl ?_
          refine x_aload_n F d_Md_sweep_142 2 rfl rfl ?_
          refine x_get F ck_Md hin_Md 0 0 rfl (by decide) kw_634 rfl rfl d_Md_sweep_143 ?_
          refine x_iload_n F d_Md_sweep_146 4 rfl rfl ?_
          refine x_aload_n F d_Md_sweep_147 2 rfl rfl ?_
          refine x_get F ck_Md hin_Md 0 0 rfl (by decide) kw_634 rfl rfl d_Md_sweep_148 ?_
          refine x_iload F d_Md_sweep_151 0 rfl ?_
          replace hm := xm_rd_some hm
          obtain ⟨v101, e_v101, b_v101, hm⟩ := hm
          refine x_bald (x := (Md_kinds s0)) F 1 rfl e_v101 b_v101 d_Md_sweep_153 ?_
          replace hm := xm_wr_some hm
          obtain ⟨a102, e_a102, b_a102, hm⟩ := hm
          refine x_bast (x := (Md_kinds s0)) (x' := a102) (ws' := [((ob0 0), .inr (8, [.ref (ob0 1), .ref (ob0 2), .ref (ob0 3), .ref (ob0 4), .ref (ob0 5), .ref (ob0 6), .ref (ob0 7), .ref (ob0 8), .ref (ob0 9), .int (Md_end s0), .int (Md_nodes s0), .ref (ob0 10), .ref (ob0 11), .int (Md_fields s0), .ref (ob0 12), .ref (ob0 13), .int (Md_pushed s0), .ref (ob0 14), .int (Md_touches s0), .ref (ob0 15), .ref (ob0 16), .ref (ob0 17), .ref (ob0 18), .ref (ad0 0), .ref (ad0 1), .int (Md_length s0)])), ((ob0 1), .inl (cA 1, a102.1, .inl a102.2)), ((ob0 2), .inl (cA 0, (Md_values s0).1, .inl (Md_values s0).2)), ((ob0 3), .inl (cA 0, (Md_firsts s0).1, .inl (Md_firsts s0).2)), ((ob0 4), .inl (cA 0, (Md_manies s0).1, .inl (Md_manies s0).2)), ((ob0 5), .inl (cA 2, (Md_said s0).1, .inl (Md_said s0).2)), ((ob0 6), .inl (cA 2, (Md_marked s0).1, .inl (Md_marked s0).2)), ((ob0 7), .inl (cA 0, (Md_leaders s0).1, .inl (Md_leaders s0).2)), ((ob0 8), .inl (cA 0, (Md_trial s0).1, .inl (Md_trial s0).2)), ((ob0 9), .inl (cA 0, (Md_shown s0).1, .inl (Md_shown s0).2)), ((ob0 10), .inl (cA 0, (Md_features s0).1, .inl (Md_features s0).2)), ((ob0 11), .inl (cA 0, (Md_parts s0).1, .inl (Md_parts s0).2)), ((ob0 12), .inl (cA 0, (Md_pushedFeatures s0).1, .inl (Md_pushedFeatures s0).2)), ((ob0 13), .inl (cA 0, (Md_pushedParts s0).1, .inl (Md_pushedParts s0).2)), ((ob0 14), .inl (cA 0, (Md_touched s0).1, .inl (Md_touched s0).2)), ((ob0 15), .inl (cA 0, (Md_reached s0).1, .inl (Md_reached s0).2)), ((ob0 16), .inl (cA 0, (Md_blocks s0).1, .inl (Md_blocks s0).2)), ((ob0 17), .inl (cA 0, (Md_newBlocks s0).1, .inl (Md_newBlocks s0).2)), ((ob0 18), .inl (cA 0, (Md_places s0).1, .inl (Md_places s0).2)), ((ad0 0), .inl (cA 0, (Md_written s0).1, .inl (Md_written s0).2)), ((ad0 1), .inl (cA 0, (Md_other s0).1, .inl (Md_other s0).2))]) F 1 rfl e_a102 b_a102 rfl d_Md_sweep_154 ?_
          refine x_aload_n F d_Md_sweep_155 2 rfl rfl ?_
          refine x_get F ck_Md hin_Md 0 1 rfl (by decide) kw_635 rfl rfl d_Md_sweep_156 ?_
          refine x_iload_n F d_Md_sweep_159 4 rfl rfl ?_
          refine x_aload_n F d_Md_sweep_160 2 rfl rfl ?_
          refine x_get F ck_Md hin_Md 0 1 rfl (by decide) kw_635 rfl rfl d_Md_sweep_161 ?_
          refine x_iload F d_Md_sweep_164 0 rfl ?_
          replace hm := xm_rd_some hm
          obtain ⟨v103, e_v103, b_v103, hm⟩ := hm
          refine x_iald (x := (Md_values s0)) F 2 rfl e_v103 b_v103 d_Md_sweep_166 ?_
          replace hm := xm_wr_some hm
          obtain ⟨a104, e_a104, b_a104, hm⟩ := hm
          refine x_iast (x := (Md_values s0)) (x' := a104) (ws' := [((ob0 0), .inr (8, [.ref (ob0 1), .ref (ob0 2), .ref (ob0 3), .ref (ob0 4), .ref (ob0 5), .ref (ob0 6), .ref (ob0 7), .ref (ob0 8), .ref (ob0 9), .int (Md_end s0), .int (Md_nodes s0), .ref (ob0 10), .ref (ob0 11), .int (Md_fields s0), .ref (ob0 12), .ref (ob0 13), .int (Md_pushed s0), .ref (ob0 14), .int (Md_touches s0), .ref (ob0 15), .ref (ob0 16), .ref (ob0 17), .ref (ob0 18), .ref (ad0 0), .ref (ad0 1), .int (Md_length s0)])), ((ob0 1), .inl (cA 1, a102.1, .inl a102.2)), ((ob0 2), .inl (cA 0, a104.1, .inl a104.2)), ((ob0 3), .inl (cA 0, (Md_firsts s0).1, .inl (Md_firsts s0).2)), ((ob0 4), .inl (cA 0, (Md_manies s0).1, .inl (Md_manies s0).2)), ((ob0 5), .inl (cA 2, (Md_said s0).1, .inl (Md_said s0).2)), ((ob0 6), .inl (cA 2, (Md_marked s0).1, .inl (Md_marked s0).2)), ((ob0 7), .inl (cA 0, (Md_leaders s0).1, .inl (Md_leaders s0).2)), ((ob0 8), .inl (cA 0, (Md_trial s0).1, .inl (Md_trial s0).2)), ((ob0 9), .inl (cA 0, (Md_shown s0).1, .inl (Md_shown s0).2)), ((ob0 10), .inl (cA 0, (Md_features s0).1, .inl (Md_features s0).2)), ((ob0 11), .inl (cA 0, (Md_parts s0).1, .inl (Md_parts s0).2)), ((ob0 12), .inl (cA 0, (Md_pushedFeatures s0).1, .inl (Md_pushedFeatures s0).2)), ((ob0 13), .inl (cA 0, (Md_pushedParts s0).1, .inl (Md_pushedParts s0).2)), ((ob0 14), .inl (cA 0, (Md_touched s0).1, .inl (Md_touched s0).2)), ((ob0 15), .inl (cA 0, (Md_reached s0).1, .inl (Md_reached s0).2)), ((ob0 16), .inl (cA 0, (Md_blocks s0).1, .inl (Md_blocks s0).2)), ((ob0 17), .inl (cA 0, (Md_newBlocks s0).1, .inl (Md_newBlocks s0).2)), ((ob0 18), .inl (cA 0, (Md_places s0).1, .inl (Md_places s0).2)), ((ad0 0), .inl (cA 0, (Md_written s0).1, .inl (Md_written s0).2)), ((ad0 1), .inl (cA 0, (Md_other s0).1, .inl (Md_other s0).2))]) F 2 rfl e_a104 b_a104 rfl d_Md_sweep_167 ?_
          refine x_aload_n F d_Md_sweep_168 2 rfl rfl ?_
          refine x_get F ck_Md hin_Md 0 2 rfl (by decide) kw_636 rfl rfl d_Md_sweep_169 ?_
          refine x_iload_n F d_Md_sweep_172 4 rfl rfl ?_
          refine x_aload_n F d_Md_sweep_173 2 rfl rfl ?_
          refine x_get F ck_Md hin_Md 0 2 rfl (by decide) kw_636 rfl rfl d_Md_sweep_174 ?_
          refine x_iload F d_Md_sweep_177 0 rfl ?_
          replace hm := xm_rd_some hm
          obtain ⟨v105, e_v105, b_v105, hm⟩ := hm
          refine x_iald (x := (Md_firsts s0)) F 3 rfl e_v105 b_v105 d_Md_sweep_179 ?_
          replace hm := xm_wr_some hm
          obtain ⟨a106, e_a106, b_a106, hm⟩ := hm
          refine x_iast (x := (Md_firsts s0)) (x' := a106) (ws' := [((ob0 0), .inr (8, [.ref (ob0 1), .ref (ob0 2), .ref (ob0 3), .ref (ob0 4), .ref (ob0 5), .ref (ob0 6), .ref (ob0 7), .ref (ob0 8), .ref (ob0 9), .int (Md_end s0), .int (Md_nodes s0), .ref (ob0 10), .ref (ob0 11), .int (Md_fields s0), .ref (ob0 12), .ref (ob0 13), .int (Md_pushed s0), .ref (ob0 14), .int (Md_touches s0), .ref (ob0 15), .ref (ob0 16), .ref (ob0 17), .ref (ob0 18), .ref (ad0 0), .ref (ad0 1), .int (Md_length s0)])), ((ob0 1), .inl (cA 1, a102.1, .inl a102.2)), ((ob0 2), .inl (cA 0, a104.1, .inl a104.2)), ((ob0 3), .inl (cA 0, a106.1, .inl a106.2)), ((ob0 4), .inl (cA 0, (Md_manies s0).1, .inl (Md_manies s0).2)), ((ob0 5), .inl (cA 2, (Md_said s0).1, .inl (Md_said s0).2)), ((ob0 6), .inl (cA 2, (Md_marked s0).1, .inl (Md_marked s0).2)), ((ob0 7), .inl (cA 0, (Md_leaders s0).1, .inl (Md_leaders s0).2)), ((ob0 8), .inl (cA 0, (Md_trial s0).1, .inl (Md_trial s0).2)), ((ob0 9), .inl (cA 0, (Md_shown s0).1, .inl (Md_shown s0).2)), ((ob0 10), .inl (cA 0, (Md_features s0).1, .inl (Md_features s0).2)), ((ob0 11), .inl (cA 0, (Md_parts s0).1, .inl (Md_parts s0).2)), ((ob0 12), .inl (cA 0, (Md_pushedFeatures s0).1, .inl (Md_pushedFeatures s0).2)), ((ob0 13), .inl (cA 0, (Md_pushedParts s0).1, .inl (Md_pushedParts s0).2)), ((ob0 14), .inl (cA 0, (Md_touched s0).1, .inl (Md_touched s0).2)), ((ob0 15), .inl (cA 0, (Md_reached s0).1, .inl (Md_reached s0).2)), ((ob0 16), .inl (cA 0, (Md_blocks s0).1, .inl (Md_blocks s0).2)), ((ob0 17), .inl (cA 0, (Md_newBlocks s0).1, .inl (Md_newBlocks s0).2)), ((ob0 18), .inl (cA 0, (Md_places s0).1, .inl (Md_places s0).2)), ((ad0 0), .inl (cA 0, (Md_written s0).1, .inl (Md_written s0).2)), ((ad0 1), .inl (cA 0, (Md_other s0).1, .inl (Md_other s0).2))]) F 3 rfl e_a106 b_a106 rfl d_Md_sweep_180 ?_
          refine x_aload_n F d_Md_sweep_181 2 rfl rfl ?_
          refine x_get F ck_Md hin_Md 0 3 rfl (by decide) kw_637 rfl rfl d_Md_sweep_182 ?_
          refine x_iload_n F d_Md_sweep_185 4 rfl rfl ?_
          refine x_aload_n F d_Md_sweep_186 2 rfl rfl ?_
          refine x_get F ck_Md hin_Md 0 3 rfl (by decide) kw_637 rfl rfl d_Md_sweep_187 ?_
          refine x_iload F d_Md_sweep_190 0 rfl ?_
          replace hm := xm_rd_some hm
          obtain ⟨v107, e_v107, b_v107, hm⟩ := hm
          refine x_iald (x := (Md_manies s0)) F 4 rfl e_v107 b_v107 d_Md_sweep_192 ?_
          replace hm := xm_wr_some hm
          obtain ⟨a108, e_a108, b_a108, hm⟩ := hm
          refine x_iast (x := (Md_manies s0)) (x' := a108) (ws' := [((ob0 0), .inr (8, [.ref (ob0 1), .ref (ob0 2), .ref (ob0 3), .ref (ob0 4), .ref (ob0 5), .ref (ob0 6), .ref (ob0 7), .ref (ob0 8), .ref (ob0 9), .int (Md_end s0), .int (Md_nodes s0), .ref (ob0 10), .ref (ob0 11), .int (Md_fields s0), .ref (ob0 12), .ref (ob0 13), .int (Md_pushed s0), .ref (ob0 14), .int (Md_touches s0), .ref (ob0 15), .ref (ob0 16), .ref (ob0 17), .ref (ob0 18), .ref (ad0 0), .ref (ad0 1), .int (Md_length s0)])), ((ob0 1), .inl (cA 1, a102.1, .inl a102.2)), ((ob0 2), .inl (cA 0, a104.1, .inl a104.2)), ((ob0 3), .inl (cA 0, a106.1, .inl a106.2)), ((ob0 4), .inl (cA 0, a108.1, .inl a108.2)), ((ob0 5), .inl (cA 2, (Md_said s0).1, .inl (Md_said s0).2)), ((ob0 6), .inl (cA 2, (Md_marked s0).1, .inl (Md_marked s0).2)), ((ob0 7), .inl (cA 0, (Md_leaders s0).1, .inl (Md_leaders s0).2)), ((ob0 8), .inl (cA 0, (Md_trial s0).1, .inl (Md_trial s0).2)), ((ob0 9), .inl (cA 0, (Md_shown s0).1, .inl (Md_shown s0).2)), ((ob0 10), .inl (cA 0, (Md_features s0).1, .inl (Md_features s0).2)), ((ob0 11), .inl (cA 0, (Md_parts s0).1, .inl (Md_parts s0).2)), ((ob0 12), .inl (cA 0, (Md_pushedFeatures s0).1, .inl (Md_pushedFeatures s0).2)), ((ob0 13), .inl (cA 0, (Md_pushedParts s0).1, .inl (Md_pushedParts s0).2)), ((ob0 14), .inl (cA 0, (Md_touched s0).1, .inl (Md_touched s0).2)), ((ob0 15), .inl (cA 0, (Md_reached s0).1, .inl (Md_reached s0).2)), ((ob0 16), .inl (cA 0, (Md_blocks s0).1, .inl (Md_blocks s0).2)), ((ob0 17), .inl (cA 0, (Md_newBlocks s0).1, .inl (Md_newBlocks s0).2)), ((ob0 18), .inl (cA 0, (Md_places s0).1, .inl (Md_places s0).2)), ((ad0 0), .inl (cA 0, (Md_written s0).1, .inl (Md_written s0).2)), ((ad0 1), .inl (cA 0, (Md_other s0).1, .inl (Md_other s0).2))]) F 4 rfl e_a108 b_a108 rfl d_Md_sweep_193 ?_
          refine x_aload_n F d_Md_sweep_194 2 rfl rfl ?_
          refine x_get F ck_Md hin_Md 0 4 rfl (by decide) kw_638 rfl rfl d_Md_sweep_195 ?_
          refine x_iload_n F d_Md_sweep_198 4 rfl rfl ?_
          refine x_aload_n F d_Md_sweep_199 2 rfl rfl ?_
          refine x_get F ck_Md hin_Md 0 7 rfl (by decide) kw_641 rfl rfl d_Md_sweep_200 ?_
          refine x_iload_n F d_Md_sweep_203 4 rfl rfl ?_
          replace hm := xm_rd_some hm
          obtain ⟨v109, e_v109, b_v109, hm⟩ := hm
          refine x_iald (x := (Md_trial s0)) F 8 rfl e_v109 b_v109 d_Md_sweep_204 ?_
          refine x_iconst (v := (1 : Int32)) F d_Md_sweep_205 (by decide) ?_
          replace hm := xm_b_some hm
          obtain ⟨j110, k111, k112, h113, hm, c_j110, d_j110⟩ := hm
          refine x_mrg (k1 := k111) (M := 214) (v := j110) (st := [.int x2, .ref (ob0 5)]) ?_ (fun J => ?_)
          · skip
            replace hm := xm_wr_some hm
            obtain ⟨a114, e_a114, b_a114, hm⟩ := hm
            refine x_zast (x := (Md_said s0)) (x' := a114) (ws' := [((ob0 0), .inr (8, [.ref (ob0 1), .ref (ob0 2), .ref (ob0 3), .ref (ob0 4), .ref (ob0 5), .ref (ob0 6), .ref (ob0 7), .ref (ob0 8), .ref (ob0 9), .int (Md_end s0), .int (Md_nodes s0), .ref (ob0 10), .ref (ob0 11), .int (Md_fields s0), .ref (ob0 12), .ref (ob0 13), .int (Md_pushed s0), .ref (ob0 14), .int (Md_touches s0), .ref (ob0 15), .ref (ob0 16), .ref (ob0 17), .ref (ob0 18), .ref (ad0 0), .ref (ad0 1), .int (Md_length s0)])), ((ob0 1), .inl (cA 1, a102.1, .inl a102.2)), ((ob0 2), .inl (cA 0, a104.1, .inl a104.2)), ((ob0 3), .inl (cA 0, a106.1, .inl a106.2)), ((ob0 4), .inl (cA 0, a108.1, .inl a108.2)), ((ob0 5), .inl (cA 2, a114.1, .inl a114.2)), ((ob0 6), .inl (cA 2, (Md_marked s0).1, .inl (Md_marked s0).2)), ((ob0 7), .inl (cA 0, (Md_leaders s0).1, .inl (Md_leaders s0).2)), ((ob0 8), .inl (cA 0, (Md_trial s0).1, .inl (Md_trial s0).2)), ((ob0 9), .inl (cA 0, (Md_shown s0).1, .inl (Md_shown s0).2)), ((ob0 10), .inl (cA 0, (Md_features s0).1, .inl (Md_features s0).2)), ((ob0 11), .inl (cA 0, (Md_parts s0).1, .inl (Md_parts s0).2)), ((ob0 12), .inl (cA 0, (Md_pushedFeatures s0).1, .inl (Md_pushedFeatures s0).2)), ((ob0 13), .inl (cA 0, (Md_pushedParts s0).1, .inl (Md_pushedParts s0).2)), ((ob0 14), .inl (cA 0, (Md_touched s0).1, .inl (Md_touched s0).2)), ((ob0 15), .inl (cA 0, (Md_reached s0).1, .inl (Md_reached s0).2)), ((ob0 16), .inl (cA 0, (Md_blocks s0).1, .inl (Md_blocks s0).2)), ((ob0 17), .inl (cA 0, (Md_newBlocks s0).1, .inl (Md_newBlocks s0).2)), ((ob0 18), .inl (cA 0, (Md_places s0).1, .inl (Md_places s0).2)), ((ad0 0), .inl (cA 0, (Md_written s0).1, .inl (Md_written s0).2)), ((ad0 1), .inl (cA 0, (Md_other s0).1, .inl (Md_other s0).2))]) F 5 rfl e_a114 b_a114 rfl d_Md_sweep_214 ?_
            refine x_aload_n F d_Md_sweep_215 2 rfl rfl ?_
            refine x_dup F d_Md_sweep_216 rfl ?_
            refine x_get F ck_Md hin_Md 0 10 rfl (by decide) kw_644 rfl rfl d_Md_sweep_217 ?_
            refine x_iconst (v := (1 : Int32)) F d_Md_sweep_220 (by decide) ?_
            refine x_iadd F d_Md_sweep_221 ?_
            refine x_put (ws' := [((ob0 0), .inr (8, [.ref (ob0 1), .ref (ob0 2), .ref (ob0 3), .ref (ob0 4), .ref (ob0 5), .ref (ob0 6), .ref (ob0 7), .ref (ob0 8), .ref (ob0 9), .int (Md_end s0), .int ((Md_nodes s0) + (1 : Int32)), .ref (ob0 10), .ref (ob0 11), .int (Md_fields s0), .ref (ob0 12), .ref (ob0 13), .int (Md_pushed s0), .ref (ob0 14), .int (Md_touches s0), .ref (ob0 15), .ref (ob0 16), .ref (ob0 17), .ref (ob0 18), .ref (ad0 0), .ref (ad0 1), .int (Md_length s0)])), ((ob0 1), .inl (cA 1, a102.1, .inl a102.2)), ((ob0 2), .inl (cA 0, a104.1, .inl a104.2)), ((ob0 3), .inl (cA 0, a106.1, .inl a106.2)), ((ob0 4), .inl (cA 0, a108.1, .inl a108.2)), ((ob0 5), .inl (cA 2, a114.1, .inl a114.2)), ((ob0 6), .inl (cA 2, (Md_marked s0).1, .inl (Md_marked s0).2)), ((ob0 7), .inl (cA 0, (Md_leaders s0).1, .inl (Md_leaders s0).2)), ((ob0 8), .inl (cA 0, (Md_trial s0).1, .inl (Md_trial s0).2)), ((ob0 9), .inl (cA 0, (Md_shown s0).1, .inl (Md_shown s0).2)), ((ob0 10), .inl (cA 0, (Md_features s0).1, .inl (Md_features s0).2)), ((ob0 11), .inl (cA 0, (Md_parts s0).1, .inl (Md_parts s0).2)), ((ob0 12), .inl (cA 0, (Md_pushedFeatures s0).1, .inl (Md_pushedFeatures s0).2)), ((ob0 13), .inl (cA 0, (Md_pushedParts s0).1, .inl (Md_pushedParts s0).2)), ((ob0 14), .inl (cA 0, (Md_touched s0).1, .inl (Md_touched s0).2)), ((ob0 15), .inl (cA 0, (Md_reached s0).1, .inl (Md_reached s0).2)), ((ob0 16), .inl (cA 0, (Md_blocks s0).1, .inl (Md_blocks s0).2)), ((ob0 17), .inl (cA 0, (Md_newBlocks s0).1, .inl (Md_newBlocks s0).2)), ((ob0 18), .inl (cA 0, (Md_places s0).1, .inl (Md_places s0).2)), ((ad0 0), .inl (cA 0, (Md_written s0).1, .inl (Md_written s0).2)), ((ad0 1), .inl (cA 0, (Md_other s0).1, .inl (Md_other s0).2))]) F ck_Md hin_Md 0 10 rfl (by decide) kw_644 rfl rfl rfl rfl (Nat.le_of_ble_eq_true rfl) rfl d_Md_sweep_222 ?_
            refine x_aload_n F d_Md_sweep_225 2 rfl rfl ?_
            refine x_get F ck_Md hin_Md 0 21 rfl (by decide) kw_655 rfl rfl d_Md_sweep_226 ?_
            refine x_iload_n F d_Md_sweep_229 4 rfl rfl ?_
            refine x_iload_n F d_Md_sweep_230 1 rfl rfl ?_
            replace hm := xm_b_some hm
            obtain ⟨j115, k116, k117, h118, hm, c_j115, d_j115⟩ := hm
            refine x_mrg (k1 := k116) (M := 239) (v := j115) (st := [.int x2, .ref (ob0 17)]) ?_ (fun J => ?_)
            · skip
              replace hm := xm_wr_some hm
              obtain ⟨a119, e_a119, b_a119, hm⟩ := hm
              refine x_iast (x := (Md_newBlocks s0)) (x' := a119) (ws' := [((ob0 0), .inr (8, [.ref (ob0 1), .ref (ob0 2), .ref (ob0 3), .ref (ob0 4), .ref (ob0 5), .ref (ob0 6), .ref (ob0 7), .ref (ob0 8), .ref (ob0 9), .int (Md_end s0), .int ((Md_nodes s0) + (1 : Int32)), .ref (ob0 10), .ref (ob0 11), .int (Md_fields s0), .ref (ob0 12), .ref (ob0 13), .int (Md_pushed s0), .ref (ob0 14), .int (Md_touches s0), .ref (ob0 15), .ref (ob0 16), .ref (ob0 17), .ref (ob0 18), .ref (ad0 0), .ref (ad0 1), .int (Md_length s0)])), ((ob0 1), .inl (cA 1, a102.1, .inl a102.2)), ((ob0 2), .inl (cA 0, a104.1, .inl a104.2)), ((ob0 3), .inl (cA 0, a106.1, .inl a106.2)), ((ob0 4), .inl (cA 0, a108.1, .inl a108.2)), ((ob0 5), .inl (cA 2, a114.1, .inl a114.2)), ((ob0 6), .inl (cA 2, (Md_marked s0).1, .inl (Md_marked s0).2)), ((ob0 7), .inl (cA 0, (Md_leaders s0).1, .inl (Md_leaders s0).2)), ((ob0 8), .inl (cA 0, (Md_trial s0).1, .inl (Md_trial s0).2)), ((ob0 9), .inl (cA 0, (Md_shown s0).1, .inl (Md_shown s0).2)), ((ob0 10), .inl (cA 0, (Md_features s0).1, .inl (Md_features s0).2)), ((ob0 11), .inl (cA 0, (Md_parts s0).1, .inl (Md_parts s0).2)), ((ob0 12), .inl (cA 0, (Md_pushedFeatures s0).1, .inl (Md_pushedFeatures s0).2)), ((ob0 13), .inl (cA 0, (Md_pushedParts s0).1, .inl (Md_pushedParts s0).2)), ((ob0 14), .inl (cA 0, (Md_touched s0).1, .inl (Md_touched s0).2)), ((ob0 15), .inl (cA 0, (Md_reached s0).1, .inl (Md_reached s0).2)), ((ob0 16), .inl (cA 0, (Md_blocks s0).1, .inl (Md_blocks s0).2)), ((ob0 17), .inl (cA 0, a119.1, .inl a119.2)), ((ob0 18), .inl (cA 0, (Md_places s0).1, .inl (Md_places s0).2)), ((ad0 0), .inl (cA 0, (Md_written s0).1, .inl (Md_written s0).2)), ((ad0 1), .inl (cA 0, (Md_other s0).1, .inl (Md_other s0).2))]) F 17 rfl e_a119 b_a119 rfl d_Md_sweep_239 ?_
              refine x_iinc (v := (x2 + 1)) (lv' := [(2, .int (x2 + 1)), (4, .int v100), (3, .int j89), (0, .ref (ob0 0)), (1, .int y1)]) F d_Md_sweep_240 4 rfl rfl (by decide) rfl ?_
              refine x_goto F 87 d_Md_sweep_243 (by decide) ?_
              refine x_sub [0, 1, 2, 3, 4, 5, 6, 7, 8, 9, 10, 11, 12, 13, 14, 15, 16, 17, 18, 19, 20] (by decide) ?_ (x_lv [3, 4, 0] ?_ (ih (x2 + 1) (a102, a104, a106, a108, a114, (Md_marked s0), (Md_leaders s0), (Md_trial s0), (Md_shown s0), (Md_end s0), ((Md_nodes s0) + (1 : Int32)), (Md_features s0), (Md_parts s0), (Md_fields s0), (Md_pushedFeatures s0), (Md_pushedParts s0), (Md_pushed s0), (Md_touched s0), (Md_touches s0), (Md_reached s0), (Md_blocks s0), a119, (Md_places s0), (Md_written s0), (Md_other s0), (Md_length s0)) ad0 _ _ out k117 hm (by omega) (by omega) (fun ad => x_cs (by omega) (by omega) (KX ad))))
              · rfl
              · rfl
            · replace hm := h118
              refine x_if_eq F 238 d_Md_sweep_231 (by decide) (fun c120 => ?_) (fun c120 => ?_)
              · replace hm := xm_t hm c120
                refine x_iconst (v := (0 : Int32)) F d_Md_sweep_238 (by decide) ?_
                replace hm := xm_p_some hm
                obtain ⟨eo, c_o, d_o⟩ := hm
                subst eo
                exact x_cs (by omega) (by omega) J
              · replace hm := xm_f hm c120
                refine x_iconst (v := (1 : Int32)) F d_Md_sweep_234 (by decide) ?_
                refine x_goto F 239 d_Md_sweep_235 (by decide) ?_
                replace hm := xm_p_some hm
                obtain ⟨eo, c_o, d_o⟩ := hm
                subst eo
                exact x_cs (by omega) (by omega) J
          · replace hm := h113
            refine x_icmp_ne F 213 d_Md_sweep_206 (by decide) (fun c121 => ?_) (fun c121 => ?_)
            · replace hm := xm_f hm c121
              refine x_iconst (v := (0 : Int32)) F d_Md_sweep_213 (by decide) ?_
              replace hm := xm_p_some hm
              obtain ⟨eo, c_o, d_o⟩ := hm
              subst eo
              exact x_cs (by omega) (by omega) J
            · replace hm := xm_t hm c121
              refine x_iconst (v := (1 : Int32)) F d_Md_sweep_209 (by decide) ?_
              refine x_goto F 214 d_Md_sweep_210 (by decide) ?_
              replace hm := xm_p_some hm
              obtain ⟨eo, c_o, d_o⟩ := hm
              subst eo
              exact x_cs (by omega) (by omega) J
      · replace hm := h92
        refine x_icmp_eq F 128 d_Md_sweep_102 (by decide) (fun c122 => ?_) (fun c122 => ?_)
        · replace hm := xm_t hm c122
          refine x_iconst (v := (0 : Int32)) F d_Md_sweep_128 (by decide) ?_
          replace hm := xm_p_some hm
          obtain ⟨eo, c_o, d_o⟩ := hm
          subst eo
          exact x_cs (by omega) (by omega) J
        · replace hm := xm_f hm c122
          refine x_aload_n F d_Md_sweep_105 0 rfl rfl ?_
          refine x_get F ck_Md hin_Md 0 5 rfl (by decide) kw_639 rfl rfl d_Md_sweep_106 ?_
          refine x_iload_n F d_Md_sweep_109 2 rfl rfl ?_
          replace hm := xm_rd_some hm
          obtain ⟨v123, e_v123, b_v123, hm⟩ := hm
          refine x_zald (x := (Md_marked s0)) F 6 rfl e_v123 b_v123 d_Md_sweep_110 ?_
          refine x_if_eq F 128 d_Md_sweep_111 (by decide) (fun c124 => ?_) (fun c124 => ?_)
          · replace hm := xm_t hm c124
            refine x_iconst (v := (0 : Int32)) F d_Md_sweep_128 (by decide) ?_
            replace hm := xm_p_some hm
            obtain ⟨eo, c_o, d_o⟩ := hm
            subst eo
            exact x_cs (by omega) (by omega) J
          · replace hm := xm_f hm c124
            refine x_aload_n F d_Md_sweep_114 0 rfl rfl ?_
            refine x_get F ck_Md hin_Md 0 6 rfl (by decide) kw_640 rfl rfl d_Md_sweep_115 ?_
            refine x_iload_n F d_Md_sweep_118 2 rfl rfl ?_
            replace hm := xm_rd_some hm
            obtain ⟨v125, e_v125, b_v125, hm⟩ := hm
            refine x_iald (x := (Md_leaders s0)) F 7 rfl e_v125 b_v125 d_Md_sweep_119 ?_
            refine x_iload_n F d_Md_sweep_120 2 rfl rfl ?_
            refine x_icmp_ne F 128 d_Md_sweep_121 (by decide) (fun c126 => ?_) (fun c126 => ?_)
            · replace hm := xm_f hm c126
              refine x_iconst (v := (0 : Int32)) F d_Md_sweep_128 (by decide) ?_
              replace hm := xm_p_some hm
              obtain ⟨eo, c_o, d_o⟩ := hm
              subst eo
              exact x_cs (by omega) (by omega) J
            · replace hm := xm_t hm c126
              refine x_iconst (v := (1 : Int32)) F d_Md_sweep_124 (by decide) ?_
              refine x_goto F 129 d_Md_sweep_125 (by decide) ?_
              replace hm := xm_p_some hm
              obtain ⟨eo, c_o, d_o⟩ := hm
              subst eo
              exact x_cs (by omega) (by omega) J
set_option maxHeartbeats 4000000 in
set_option maxRecDepth 100000 in
theorem wl_Md_sweep_248 {X : XT} {l : Launch} {D : va_G} {cA : Nat → ClassId} {mc ms : Nat} (F : XF X l D cA b_Md_sweep 5 (some FieldType.int) R_Md 2 45 mc ms) (n : Nat) (ob0 : Nat → Nat) (y1 : Int32)   : ∀ (i : Nat) (x2 : Int32) (s0 : S_Md) (ad0 : Nat → Nat) (nc ns : Nat) (out : Int32 × S_Md) (k : KC), L_Md_sweep_248 y1 n i x2 s0 = some (out, k) → nc + k.1 ≤ mc → ns + k.2 ≤ ms → (∀ ad : Nat → Nat, XW X 5 ((w_Md cA ob0 ad  (out.2))) (nc + k.1) (ns + k.2) 278 [(0, .ref (ob0 0)), (1, .int y1), (2, .int (out.1))] []) → XW X 5 ((w_Md cA ob0 ad0  s0)) nc ns 248 [(0, .ref (ob0 0)), (1, .int y1), (2, .int x2)] [] := by
  intro i
  induction i with
  | zero =>
    intro x2 s0 ad0 nc ns out k hm
    replace hm : (none : MO (Int32 × S_Md)) = some (out, k) := hm
    cases hm
  | succ i ih =>
    intro x2 s0 ad0 nc ns out k hm hc hs KX
    rw [L_Md_sweep_248_s] at hm
    refine x_ws (ws' := [((ob0 0), .inr (8, [.ref (ob0 1), .ref (ob0 2), .ref (ob0 3), .ref (ob0 4), .ref (ob0 5), .ref (ob0 6), .ref (ob0 7), .ref (ob0 8), .ref (ob0 9), .int (Md_end s0), .int (Md_nodes s0), .ref (ob0 10), .ref (ob0 11), .int (Md_fields s0), .ref (ob0 12), .ref (ob0 13), .int (Md_pushed s0), .ref (ob0 14), .int (Md_touches s0), .ref (ob0 15), .ref (ob0 16), .ref (ob0 17), .ref (ob0 18), .ref (ad0 0), .ref (ad0 1), .int (Md_length s0)])), ((ob0 1), .inl (cA 1, (Md_kinds s0).1, .inl (Md_kinds s0).2)), ((ob0 2), .inl (cA 0, (Md_values s0).1, .inl (Md_values s0).2)), ((ob0 3), .inl (cA 0, (Md_firsts s0).1, .inl (Md_firsts s0).2)), ((ob0 4), .inl (cA 0, (Md_manies s0).1, .inl (Md_manies s0).2)), ((ob0 5), .inl (cA 2, (Md_said s0).1, .inl (Md_said s0).2)), ((ob0 6), .inl (cA 2, (Md_marked s0).1, .inl (Md_marked s0).2)), ((ob0 7), .inl (cA 0, (Md_leaders s0).1, .inl (Md_leaders s0).2)), ((ob0 8), .inl (cA 0, (Md_trial s0).1, .inl (Md_trial s0).2)), ((ob0 9), .inl (cA 0, (Md_shown s0).1, .inl (Md_shown s0).2)), ((ob0 10), .inl (cA 0, (Md_features s0).1, .inl (Md_features s0).2)), ((ob0 11), .inl (cA 0, (Md_parts s0).1, .inl (Md_parts s0).2)), ((ob0 12), .inl (cA 0, (Md_pushedFeatures s0).1, .inl (Md_pushedFeatures s0).2)), ((ob0 13), .inl (cA 0, (Md_pushedParts s0).1, .inl (Md_pushedParts s0).2)), ((ob0 14), .inl (cA 0, (Md_touched s0).1, .inl (Md_touched s0).2)), ((ob0 15), .inl (cA 0, (Md_reached s0).1, .inl (Md_reached s0).2)), ((ob0 16), .inl (cA 0, (Md_blocks s0).1, .inl (Md_blocks s0).2)), ((ob0 17), .inl (cA 0, (Md_newBlocks s0).1, .inl (Md_newBlocks s0).2)), ((ob0 18), .inl (cA 0, (Md_places s0).1, .inl (Md_places s0).2)), ((ad0 0), .inl (cA 0, (Md_written s0).1, .inl (Md_written s0).2)), ((ad0 1), .inl (cA 0, (Md_other s0).1, .inl (Md_other s0).2))]) rfl ?_
    refine x_iload_n F d_Md_sweep_248 2 rfl rfl ?_
    refine x_aload_n F d_Md_sweep_249 0 rfl rfl ?_
    refine x_get F ck_Md hin_Md 0 9 rfl (by decide) kw_643 rfl rfl d_Md_sweep_250 ?_
    refine x_icmp_ge F 278 d_Md_sweep_253 (by decide) (fun c132 => ?_) (fun c132 => ?_)
    · replace hm := xm_t hm c132
      replace hm := xm_p_some hm
      obtain ⟨eo, c_o, d_o⟩ := hm
      subst eo
      refine x_sub [0, 1, 2, 3, 4, 5, 6, 7, 8, 9, 10, 11, 12, 13, 14, 15, 16, 17, 18, 19, 20] (by decide) ?_ (x_lv [0, 1, 2] ?_ (x_cs (by omega) (by omega) (KX ad0)))
      · rfl
      · rfl
    · replace hm := xm_f hm c132
      refine x_aload_n F d_Md_sweep_256 0 rfl rfl ?_
      refine x_get F ck_Md hin_Md 0 21 rfl (by decide) kw_655 rfl rfl d_Md_sweep_257 ?_
      refine x_iload_n F d_Md_sweep_260 2 rfl rfl ?_
      replace hm := xm_rd_some hm
      obtain ⟨v133, e_v133, b_v133, hm⟩ := hm
      refine x_iald (x := (Md_newBlocks s0)) F 17 rfl e_v133 b_v133 d_Md_sweep_261 ?_
      refine x_if_ne F 272 d_Md_sweep_262 (by decide) (fun c134 => ?_) (fun c134 => ?_)
      · replace hm := xm_f hm c134
        refine x_iinc (v := (x2 + 1)) (lv' := [(2, .int (x2 + 1)), (0, .ref (ob0 0)), (1, .int y1)]) F d_Md_sweep_272 2 rfl rfl (by decide) rfl ?_
        refine x_goto F 248 d_Md_sweep_275 (by decide) ?_
        refine x_sub [0, 1, 2, 3, 4, 5, 6, 7, 8, 9, 10, 11, 12, 13, 14, 15, 16, 17, 18, 19, 20] (by decide) ?_ (x_lv [1, 2, 0] ?_ (ih (x2 + 1) s0 ad0 _ _ out k hm (by omega) (by omega) (fun ad => x_cs (by omega) (by omega) (KX ad))))
        · rfl
        · rfl
      · replace hm := xm_t hm c134
        refine x_aload_n F d_Md_sweep_265 0 rfl rfl ?_
        refine x_get F ck_Md hin_Md 0 0 rfl (by decide) kw_634 rfl rfl d_Md_sweep_266 ?_
        refine x_iload_n F d_Md_sweep_269 2 rfl rfl ?_
        refine x_iconst (v := (-1 : Int32)) F d_Md_sweep_270 (by decide) ?_
        replace hm := xm_wr_some hm
        obtain ⟨a135, e_a135, b_a135, hm⟩ := hm
        refine x_bast (x := (Md_kinds s0)) (x' := a135) (ws' := [((ob0 0), .inr (8, [.ref (ob0 1), .ref (ob0 2), .ref (ob0 3), .ref (ob0 4), .ref (ob0 5), .ref (ob0 6), .ref (ob0 7), .ref (ob0 8), .ref (ob0 9), .int (Md_end s0), .int (Md_nodes s0), .ref (ob0 10), .ref (ob0 11), .int (Md_fields s0), .ref (ob0 12), .ref (ob0 13), .int (Md_pushed s0), .ref (ob0 14), .int (Md_touches s0), .ref (ob0 15), .ref (ob0 16), .ref (ob0 17), .ref (ob0 18), .ref (ad0 0), .ref (ad0 1), .int (Md_length s0)])), ((ob0 1), .inl (cA 1, a135.1, .inl a135.2)), ((ob0 2), .inl (cA 0, (Md_values s0).1, .inl (Md_values s0).2)), ((ob0 3), .inl (cA 0, (Md_firsts s0).1, .inl (Md_firsts s0).2)), ((ob0 4), .inl (cA 0, (Md_manies s0).1, .inl (Md_manies s0).2)), ((ob0 5), .inl (cA 2, (Md_said s0).1, .inl (Md_said s0).2)), ((ob0 6), .inl (cA 2, (Md_marked s0).1, .inl (Md_marked s0).2)), ((ob0 7), .inl (cA 0, (Md_leaders s0).1, .inl (Md_leaders s0).2)), ((ob0 8), .inl (cA 0, (Md_trial s0).1, .inl (Md_trial s0).2)), ((ob0 9), .inl (cA 0, (Md_shown s0).1, .inl (Md_shown s0).2)), ((ob0 10), .inl (cA 0, (Md_features s0).1, .inl (Md_features s0).2)), ((ob0 11), .inl (cA 0, (Md_parts s0).1, .inl (Md_parts s0).2)), ((ob0 12), .inl (cA 0, (Md_pushedFeatures s0).1, .inl (Md_pushedFeatures s0).2)), ((ob0 13), .inl (cA 0, (Md_pushedParts s0).1, .inl (Md_pushedParts s0).2)), ((ob0 14), .inl (cA 0, (Md_touched s0).1, .inl (Md_touched s0).2)), ((ob0 15), .inl (cA 0, (Md_reached s0).1, .inl (Md_reached s0).2)), ((ob0 16), .inl (cA 0, (Md_blocks s0).1, .inl (Md_blocks s0).2)), ((ob0 17), .inl (cA 0, (Md_newBlocks s0).1, .inl (Md_newBlocks s0).2)), ((ob0 18), .inl (cA 0, (Md_places s0).1, .inl (Md_places s0).2)), ((ad0 0), .inl (cA 0, (Md_written s0).1, .inl (Md_written s0).2)), ((ad0 1), .inl (cA 0, (Md_other s0).1, .inl (Md_other s0).2))]) F 1 rfl e_a135 b_a135 rfl d_Md_sweep_271 ?_
        refine x_iinc (v := (x2 + 1)) (lv' := [(2, .int (x2 + 1)), (0, .ref (ob0 0)), (1, .int y1)]) F d_Md_sweep_272 2 rfl rfl (by decide) rfl ?_
        refine x_goto F 248 d_Md_sweep_275 (by decide) ?_
        refine x_sub [0, 1, 2, 3, 4, 5, 6, 7, 8, 9, 10, 11, 12, 13, 14, 15, 16, 17, 18, 19, 20] (by decide) ?_ (x_lv [1, 2, 0] ?_ (ih (x2 + 1) (a135, (Md_values s0), (Md_firsts s0), (Md_manies s0), (Md_said s0), (Md_marked s0), (Md_leaders s0), (Md_trial s0), (Md_shown s0), (Md_end s0), (Md_nodes s0), (Md_features s0), (Md_parts s0), (Md_fields s0), (Md_pushedFeatures s0), (Md_pushedParts s0), (Md_pushed s0), (Md_touched s0), (Md_touches s0), (Md_reached s0), (Md_blocks s0), (Md_newBlocks s0), (Md_places s0), (Md_written s0), (Md_other s0), (Md_length s0)) ad0 _ _ out k hm (by omega) (by omega) (fun ad => x_cs (by omega) (by omega) (KX ad))))
        · rfl
        · rfl
set_option maxHeartbeats 4000000 in
set_option maxRecDepth 100000 in
theorem wl_Md_sweep_284 {X : XT} {l : Launch} {D : va_G} {cA : Nat → ClassId} {mc ms : Nat} (F : XF X l D cA b_Md_sweep 5 (some FieldType.int) R_Md 2 45 mc ms) (n : Nat) (ob0 : Nat → Nat) (y1 : Int32)   : ∀ (i : Nat) (x2 : Int32) (s0 : S_Md) (ad0 : Nat → Nat) (nc ns : Nat) (out : Int32 × S_Md) (k : KC), L_Md_sweep_284 y1 n i x2 s0 = some (out, k) → nc + k.1 ≤ mc → ns + k.2 ≤ ms → (∀ ad : Nat → Nat, XW X 5 ((w_Md cA ob0 ad  (out.2))) (nc + k.1) (ns + k.2) 312 [(0, .ref (ob0 0)), (1, .int y1), (2, .int (out.1))] []) → XW X 5 ((w_Md cA ob0 ad0  s0)) nc ns 284 [(0, .ref (ob0 0)), (1, .int y1), (2, .int x2)] [] := by
  intro i
  induction i with
  | zero =>
    intro x2 s0 ad0 nc ns out k hm
    replace hm : (none : MO (Int32 × S_Md)) = some (out, k) := hm
    cases hm
  | succ i ih =>
    intro x2 s0 ad0 nc ns out k hm hc hs KX
    rw [L_Md_sweep_284_s] at hm
    refine x_ws (ws' := [((ob0 0), .inr (8, [.ref (ob0 1), .ref (ob0 2), .ref (ob0 3), .ref (ob0 4), .ref (ob0 5), .ref (ob0 6), .ref (ob0 7), .ref (ob0 8), .ref (ob0 9), .int (Md_end s0), .int (Md_nodes s0), .ref (ob0 10), .ref (ob0 11), .int (Md_fields s0), .ref (ob0 12), .ref (ob0 13), .int (Md_pushed s0), .ref (ob0 14), .int (Md_touches s0), .ref (ob0 15), .ref (ob0 16), .ref (ob0 17), .ref (ob0 18), .ref (ad0 0), .ref (ad0 1), .int (Md_length s0)])), ((ob0 1), .inl (cA 1, (Md_kinds s0).1, .inl (Md_kinds s0).2)), ((ob0 2), .inl (cA 0, (Md_values s0).1, .inl (Md_values s0).2)), ((ob0 3), .inl (cA 0, (Md_firsts s0).1, .inl (Md_firsts s0).2)), ((ob0 4), .inl (cA 0, (Md_manies s0).1, .inl (Md_manies s0).2)), ((ob0 5), .inl (cA 2, (Md_said s0).1, .inl (Md_said s0).2)), ((ob0 6), .inl (cA 2, (Md_marked s0).1, .inl (Md_marked s0).2)), ((ob0 7), .inl (cA 0, (Md_leaders s0).1, .inl (Md_leaders s0).2)), ((ob0 8), .inl (cA 0, (Md_trial s0).1, .inl (Md_trial s0).2)), ((ob0 9), .inl (cA 0, (Md_shown s0).1, .inl (Md_shown s0).2)), ((ob0 10), .inl (cA 0, (Md_features s0).1, .inl (Md_features s0).2)), ((ob0 11), .inl (cA 0, (Md_parts s0).1, .inl (Md_parts s0).2)), ((ob0 12), .inl (cA 0, (Md_pushedFeatures s0).1, .inl (Md_pushedFeatures s0).2)), ((ob0 13), .inl (cA 0, (Md_pushedParts s0).1, .inl (Md_pushedParts s0).2)), ((ob0 14), .inl (cA 0, (Md_touched s0).1, .inl (Md_touched s0).2)), ((ob0 15), .inl (cA 0, (Md_reached s0).1, .inl (Md_reached s0).2)), ((ob0 16), .inl (cA 0, (Md_blocks s0).1, .inl (Md_blocks s0).2)), ((ob0 17), .inl (cA 0, (Md_newBlocks s0).1, .inl (Md_newBlocks s0).2)), ((ob0 18), .inl (cA 0, (Md_places s0).1, .inl (Md_places s0).2)), ((ad0 0), .inl (cA 0, (Md_written s0).1, .inl (Md_written s0).2)), ((ad0 1), .inl (cA 0, (Md_other s0).1, .inl (Md_other s0).2))]) rfl ?_
    refine x_iload_n F d_Md_sweep_284 2 rfl rfl ?_
    refine x_aload_n F d_Md_sweep_285 0 rfl rfl ?_
    refine x_get F ck_Md hin_Md 0 9 rfl (by decide) kw_643 rfl rfl d_Md_sweep_286 ?_
    refine x_icmp_ge F 312 d_Md_sweep_289 (by decide) (fun c146 => ?_) (fun c146 => ?_)
    · replace hm := xm_t hm c146
      replace hm := xm_p_some hm
      obtain ⟨eo, c_o, d_o⟩ := hm
      subst eo
      refine x_sub [0, 1, 2, 3, 4, 5, 6, 7, 8, 9, 10, 11, 12, 13, 14, 15, 16, 17, 18, 19, 20] (by decide) ?_ (x_lv [0, 1, 2] ?_ (x_cs (by omega) (by omega) (KX ad0)))
      · rfl
      · rfl
    · replace hm := xm_f hm c146
      refine x_aload_n F d_Md_sweep_292 0 rfl rfl ?_
      refine x_get F ck_Md hin_Md 0 6 rfl (by decide) kw_640 rfl rfl d_Md_sweep_293 ?_
      refine x_iload_n F d_Md_sweep_296 2 rfl rfl ?_
      refine x_iload_n F d_Md_sweep_297 2 rfl rfl ?_
      replace hm := xm_wr_some hm
      obtain ⟨a147, e_a147, b_a147, hm⟩ := hm
      refine x_iast (x := (Md_leaders s0)) (x' := a147) (ws' := [((ob0 0), .inr (8, [.ref (ob0 1), .ref (ob0 2), .ref (ob0 3), .ref (ob0 4), .ref (ob0 5), .ref (ob0 6), .ref (ob0 7), .ref (ob0 8), .ref (ob0 9), .int (Md_end s0), .int (Md_nodes s0), .ref (ob0 10), .ref (ob0 11), .int (Md_fields s0), .ref (ob0 12), .ref (ob0 13), .int (Md_pushed s0), .ref (ob0 14), .int (Md_touches s0), .ref (ob0 15), .ref (ob0 16), .ref (ob0 17), .ref (ob0 18), .ref (ad0 0), .ref (ad0 1), .int (Md_length s0)])), ((ob0 1), .inl (cA 1, (Md_kinds s0).1, .inl (Md_kinds s0).2)), ((ob0 2), .inl (cA 0, (Md_values s0).1, .inl (Md_values s0).2)), ((ob0 3), .inl (cA 0, (Md_firsts s0).1, .inl (Md_firsts s0).2)), ((ob0 4), .inl (cA 0, (Md_manies s0).1, .inl (Md_manies s0).2)), ((ob0 5), .inl (cA 2, (Md_said s0).1, .inl (Md_said s0).2)), ((ob0 6), .inl (cA 2, (Md_marked s0).1, .inl (Md_marked s0).2)), ((ob0 7), .inl (cA 0, a147.1, .inl a147.2)), ((ob0 8), .inl (cA 0, (Md_trial s0).1, .inl (Md_trial s0).2)), ((ob0 9), .inl (cA 0, (Md_shown s0).1, .inl (Md_shown s0).2)), ((ob0 10), .inl (cA 0, (Md_features s0).1, .inl (Md_features s0).2)), ((ob0 11), .inl (cA 0, (Md_parts s0).1, .inl (Md_parts s0).2)), ((ob0 12), .inl (cA 0, (Md_pushedFeatures s0).1, .inl (Md_pushedFeatures s0).2)), ((ob0 13), .inl (cA 0, (Md_pushedParts s0).1, .inl (Md_pushedParts s0).2)), ((ob0 14), .inl (cA 0, (Md_touched s0).1, .inl (Md_touched s0).2)), ((ob0 15), .inl (cA 0, (Md_reached s0).1, .inl (Md_reached s0).2)), ((ob0 16), .inl (cA 0, (Md_blocks s0).1, .inl (Md_blocks s0).2)), ((ob0 17), .inl (cA 0, (Md_newBlocks s0).1, .inl (Md_newBlocks s0).2)), ((ob0 18), .inl (cA 0, (Md_places s0).1, .inl (Md_places s0).2)), ((ad0 0), .inl (cA 0, (Md_written s0).1, .inl (Md_written s0).2)), ((ad0 1), .inl (cA 0, (Md_other s0).1, .inl (Md_other s0).2))]) F 7 rfl e_a147 b_a147 rfl d_Md_sweep_298 ?_
      refine x_aload_n F d_Md_sweep_299 0 rfl rfl ?_
      refine x_get F ck_Md hin_Md 0 5 rfl (by decide) kw_639 rfl rfl d_Md_sweep_300 ?_
      refine x_iload_n F d_Md_sweep_303 2 rfl rfl ?_
      refine x_iconst (v := (0 : Int32)) F d_Md_sweep_304 (by decide) ?_
      replace hm := xm_wr_some hm
      obtain ⟨a148, e_a148, b_a148, hm⟩ := hm
      refine x_zast (x := (Md_marked s0)) (x' := a148) (ws' := [((ob0 0), .inr (8, [.ref (ob0 1), .ref (ob0 2), .ref (ob0 3), .ref (ob0 4), .ref (ob0 5), .ref (ob0 6), .ref (ob0 7), .ref (ob0 8), .ref (ob0 9), .int (Md_end s0), .int (Md_nodes s0), .ref (ob0 10), .ref (ob0 11), .int (Md_fields s0), .ref (ob0 12), .ref (ob0 13), .int (Md_pushed s0), .ref (ob0 14), .int (Md_touches s0), .ref (ob0 15), .ref (ob0 16), .ref (ob0 17), .ref (ob0 18), .ref (ad0 0), .ref (ad0 1), .int (Md_length s0)])), ((ob0 1), .inl (cA 1, (Md_kinds s0).1, .inl (Md_kinds s0).2)), ((ob0 2), .inl (cA 0, (Md_values s0).1, .inl (Md_values s0).2)), ((ob0 3), .inl (cA 0, (Md_firsts s0).1, .inl (Md_firsts s0).2)), ((ob0 4), .inl (cA 0, (Md_manies s0).1, .inl (Md_manies s0).2)), ((ob0 5), .inl (cA 2, (Md_said s0).1, .inl (Md_said s0).2)), ((ob0 6), .inl (cA 2, a148.1, .inl a148.2)), ((ob0 7), .inl (cA 0, a147.1, .inl a147.2)), ((ob0 8), .inl (cA 0, (Md_trial s0).1, .inl (Md_trial s0).2)), ((ob0 9), .inl (cA 0, (Md_shown s0).1, .inl (Md_shown s0).2)), ((ob0 10), .inl (cA 0, (Md_features s0).1, .inl (Md_features s0).2)), ((ob0 11), .inl (cA 0, (Md_parts s0).1, .inl (Md_parts s0).2)), ((ob0 12), .inl (cA 0, (Md_pushedFeatures s0).1, .inl (Md_pushedFeatures s0).2)), ((ob0 13), .inl (cA 0, (Md_pushedParts s0).1, .inl (Md_pushedParts s0).2)), ((ob0 14), .inl (cA 0, (Md_touched s0).1, .inl (Md_touched s0).2)), ((ob0 15), .inl (cA 0, (Md_reached s0).1, .inl (Md_reached s0).2)), ((ob0 16), .inl (cA 0, (Md_blocks s0).1, .inl (Md_blocks s0).2)), ((ob0 17), .inl (cA 0, (Md_newBlocks s0).1, .inl (Md_newBlocks s0).2)), ((ob0 18), .inl (cA 0, (Md_places s0).1, .inl (Md_places s0).2)), ((ad0 0), .inl (cA 0, (Md_written s0).1, .inl (Md_written s0).2)), ((ad0 1), .inl (cA 0, (Md_other s0).1, .inl (Md_other s0).2))]) F 6 rfl e_a148 b_a148 rfl d_Md_sweep_305 ?_
      refine x_iinc (v := (x2 + 1)) (lv' := [(2, .int (x2 + 1)), (0, .ref (ob0 0)), (1, .int y1)]) F d_Md_sweep_306 2 rfl rfl (by decide) rfl ?_
      refine x_goto F 284 d_Md_sweep_309 (by decide) ?_
      refine x_sub [0, 1, 2, 3, 4, 5, 6, 7, 8, 9, 10, 11, 12, 13, 14, 15, 16, 17, 18, 19, 20] (by decide) ?_ (x_lv [1, 2, 0] ?_ (ih (x2 + 1) ((Md_kinds s0), (Md_values s0), (Md_firsts s0), (Md_manies s0), (Md_said s0), a148, a147, (Md_trial s0), (Md_shown s0), (Md_end s0), (Md_nodes s0), (Md_features s0), (Md_parts s0), (Md_fields s0), (Md_pushedFeatures s0), (Md_pushedParts s0), (Md_pushed s0), (Md_touched s0), (Md_touches s0), (Md_reached s0), (Md_blocks s0), (Md_newBlocks s0), (Md_places s0), (Md_written s0), (Md_other s0), (Md_length s0)) ad0 _ _ out k hm (by omega) (by omega) (fun ad => x_cs (by omega) (by omega) (KX ad))))
      · rfl
      · rfl
set_option maxHeartbeats 4000000 in
set_option maxRecDepth 100000 in
theorem wl_Md_sweep_312 {X : XT} {l : Launch} {D : va_G} {cA : Nat → ClassId} {mc ms : Nat} (F : XF X l D cA b_Md_sweep 5 (some FieldType.int) R_Md 2 45 mc ms) (n : Nat) (ob0 : Nat → Nat) (y1 : Int32) (y2 : Int32)   : ∀ (i : Nat) (s0 : S_Md) (ad0 : Nat → Nat) (nc ns : Nat) (out : S_Md) (k : KC), L_Md_sweep_312 y1 y2 n i s0 = some (out, k) → nc + k.1 ≤ mc → ns + k.2 ≤ ms → (∀ ad : Nat → Nat, XW X 5 ((w_Md cA ob0 ad  out)) (nc + k.1) (ns + k.2) 347 [(0, .ref (ob0 0)), (1, .int y1), (2, .int y2)] []) → XW X 5 ((w_Md cA ob0 ad0  s0)) nc ns 312 [(0, .ref (ob0 0)), (1, .int y1), (2, .int y2)] [] := by
  intro i
  induction i with
  | zero =>
    intro s0 ad0 nc ns out k hm
    replace hm : (none : MO (S_Md)) = some (out, k) := hm
    cases hm
  | succ i ih =>
    intro s0 ad0 nc ns out k hm hc hs KX
    rw [L_Md_sweep_312_s] at hm
    refine x_ws (ws' := [((ob0 0), .inr (8, [.ref (ob0 1), .ref (ob0 2), .ref (ob0 3), .ref (ob0 4), .ref (ob0 5), .ref (ob0 6), .ref (ob0 7), .ref (ob0 8), .ref (ob0 9), .int (Md_end s0), .int (Md_nodes s0), .ref (ob0 10), .ref (ob0 11), .int (Md_fields s0), .ref (ob0 12), .ref (ob0 13), .int (Md_pushed s0), .ref (ob0 14), .int (Md_touches s0), .ref (ob0 15), .ref (ob0 16), .ref (ob0 17), .ref (ob0 18), .ref (ad0 0), .ref (ad0 1), .int (Md_length s0)])), ((ob0 1), .inl (cA 1, (Md_kinds s0).1, .inl (Md_kinds s0).2)), ((ob0 2), .inl (cA 0, (Md_values s0).1, .inl (Md_values s0).2)), ((ob0 3), .inl (cA 0, (Md_firsts s0).1, .inl (Md_firsts s0).2)), ((ob0 4), .inl (cA 0, (Md_manies s0).1, .inl (Md_manies s0).2)), ((ob0 5), .inl (cA 2, (Md_said s0).1, .inl (Md_said s0).2)), ((ob0 6), .inl (cA 2, (Md_marked s0).1, .inl (Md_marked s0).2)), ((ob0 7), .inl (cA 0, (Md_leaders s0).1, .inl (Md_leaders s0).2)), ((ob0 8), .inl (cA 0, (Md_trial s0).1, .inl (Md_trial s0).2)), ((ob0 9), .inl (cA 0, (Md_shown s0).1, .inl (Md_shown s0).2)), ((ob0 10), .inl (cA 0, (Md_features s0).1, .inl (Md_features s0).2)), ((ob0 11), .inl (cA 0, (Md_parts s0).1, .inl (Md_parts s0).2)), ((ob0 12), .inl (cA 0, (Md_pushedFeatures s0).1, .inl (Md_pushedFeatures s0).2)), ((ob0 13), .inl (cA 0, (Md_pushedParts s0).1, .inl (Md_pushedParts s0).2)), ((ob0 14), .inl (cA 0, (Md_touched s0).1, .inl (Md_touched s0).2)), ((ob0 15), .inl (cA 0, (Md_reached s0).1, .inl (Md_reached s0).2)), ((ob0 16), .inl (cA 0, (Md_blocks s0).1, .inl (Md_blocks s0).2)), ((ob0 17), .inl (cA 0, (Md_newBlocks s0).1, .inl (Md_newBlocks s0).2)), ((ob0 18), .inl (cA 0, (Md_places s0).1, .inl (Md_places s0).2)), ((ad0 0), .inl (cA 0, (Md_written s0).1, .inl (Md_written s0).2)), ((ad0 1), .inl (cA 0, (Md_other s0).1, .inl (Md_other s0).2))]) rfl ?_
    refine x_aload_n F d_Md_sweep_312 0 rfl rfl ?_
    refine x_get F ck_Md hin_Md 0 9 rfl (by decide) kw_643 rfl rfl d_Md_sweep_313 ?_
    refine x_if_le F 347 d_Md_sweep_316 (by decide) (fun c154 => ?_) (fun c154 => ?_)
    · replace hm := xm_t hm c154
      replace hm := xm_p_some hm
      obtain ⟨eo, c_o, d_o⟩ := hm
      subst eo
      refine x_sub [0, 1, 2, 3, 4, 5, 6, 7, 8, 9, 10, 11, 12, 13, 14, 15, 16, 17, 18, 19, 20] (by decide) ?_ (x_lv [0, 1, 2] ?_ (x_cs (by omega) (by omega) (KX ad0)))
      · rfl
      · rfl
    · replace hm := xm_f hm c154
      refine x_aload_n F d_Md_sweep_319 0 rfl rfl ?_
      refine x_get F ck_Md hin_Md 0 0 rfl (by decide) kw_634 rfl rfl d_Md_sweep_320 ?_
      refine x_aload_n F d_Md_sweep_323 0 rfl rfl ?_
      refine x_get F ck_Md hin_Md 0 9 rfl (by decide) kw_643 rfl rfl d_Md_sweep_324 ?_
      refine x_iconst (v := (1 : Int32)) F d_Md_sweep_327 (by decide) ?_
      refine x_isub F d_Md_sweep_328 ?_
      replace hm := xm_rd_some hm
      obtain ⟨v155, e_v155, b_v155, hm⟩ := hm
      refine x_bald (x := (Md_kinds s0)) F 1 rfl e_v155 b_v155 d_Md_sweep_329 ?_
      refine x_iconst (v := (-1 : Int32)) F d_Md_sweep_330 (by decide) ?_
      refine x_icmp_ne F 347 d_Md_sweep_331 (by decide) (fun c156 => ?_) (fun c156 => ?_)
      · replace hm := xm_f hm c156
        replace hm := xm_p_some hm
        obtain ⟨eo, c_o, d_o⟩ := hm
        subst eo
        refine x_sub [0, 1, 2, 3, 4, 5, 6, 7, 8, 9, 10, 11, 12, 13, 14, 15, 16, 17, 18, 19, 20] (by decide) ?_ (x_lv [0, 1, 2] ?_ (x_cs (by omega) (by omega) (KX ad0)))
        · rfl
        · rfl
      · replace hm := xm_t hm c156
        refine x_aload_n F d_Md_sweep_334 0 rfl rfl ?_
        refine x_dup F d_Md_sweep_335 rfl ?_
        refine x_get F ck_Md hin_Md 0 9 rfl (by decide) kw_643 rfl rfl d_Md_sweep_336 ?_
        refine x_iconst (v := (1 : Int32)) F d_Md_sweep_339 (by decide) ?_
        refine x_isub F d_Md_sweep_340 ?_
        refine x_put (ws' := [((ob0 0), .inr (8, [.ref (ob0 1), .ref (ob0 2), .ref (ob0 3), .ref (ob0 4), .ref (ob0 5), .ref (ob0 6), .ref (ob0 7), .ref (ob0 8), .ref (ob0 9), .int ((Md_end s0) - (1 : Int32)), .int (Md_nodes s0), .ref (ob0 10), .ref (ob0 11), .int (Md_fields s0), .ref (ob0 12), .ref (ob0 13), .int (Md_pushed s0), .ref (ob0 14), .int (Md_touches s0), .ref (ob0 15), .ref (ob0 16), .ref (ob0 17), .ref (ob0 18), .ref (ad0 0), .ref (ad0 1), .int (Md_length s0)])), ((ob0 1), .inl (cA 1, (Md_kinds s0).1, .inl (Md_kinds s0).2)), ((ob0 2), .inl (cA 0, (Md_values s0).1, .inl (Md_values s0).2)), ((ob0 3), .inl (cA 0, (Md_firsts s0).1, .inl (Md_firsts s0).2)), ((ob0 4), .inl (cA 0, (Md_manies s0).1, .inl (Md_manies s0).2)), ((ob0 5), .inl (cA 2, (Md_said s0).1, .inl (Md_said s0).2)), ((ob0 6), .inl (cA 2, (Md_marked s0).1, .inl (Md_marked s0).2)), ((ob0 7), .inl (cA 0, (Md_leaders s0).1, .inl (Md_leaders s0).2)), ((ob0 8), .inl (cA 0, (Md_trial s0).1, .inl (Md_trial s0).2)), ((ob0 9), .inl (cA 0, (Md_shown s0).1, .inl (Md_shown s0).2)), ((ob0 10), .inl (cA 0, (Md_features s0).1, .inl (Md_features s0).2)), ((ob0 11), .inl (cA 0, (Md_parts s0).1, .inl (Md_parts s0).2)), ((ob0 12), .inl (cA 0, (Md_pushedFeatures s0).1, .inl (Md_pushedFeatures s0).2)), ((ob0 13), .inl (cA 0, (Md_pushedParts s0).1, .inl (Md_pushedParts s0).2)), ((ob0 14), .inl (cA 0, (Md_touched s0).1, .inl (Md_touched s0).2)), ((ob0 15), .inl (cA 0, (Md_reached s0).1, .inl (Md_reached s0).2)), ((ob0 16), .inl (cA 0, (Md_blocks s0).1, .inl (Md_blocks s0).2)), ((ob0 17), .inl (cA 0, (Md_newBlocks s0).1, .inl (Md_newBlocks s0).2)), ((ob0 18), .inl (cA 0, (Md_places s0).1, .inl (Md_places s0).2)), ((ad0 0), .inl (cA 0, (Md_written s0).1, .inl (Md_written s0).2)), ((ad0 1), .inl (cA 0, (Md_other s0).1, .inl (Md_other s0).2))]) F ck_Md hin_Md 0 9 rfl (by decide) kw_643 rfl rfl rfl rfl (Nat.le_of_ble_eq_true rfl) rfl d_Md_sweep_341 ?_
        refine x_goto F 312 d_Md_sweep_344 (by decide) ?_
        refine x_sub [0, 1, 2, 3, 4, 5, 6, 7, 8, 9, 10, 11, 12, 13, 14, 15, 16, 17, 18, 19, 20] (by decide) ?_ (x_lv [0, 1, 2] ?_ (ih ((Md_kinds s0), (Md_values s0), (Md_firsts s0), (Md_manies s0), (Md_said s0), (Md_marked s0), (Md_leaders s0), (Md_trial s0), (Md_shown s0), ((Md_end s0) - (1 : Int32)), (Md_nodes s0), (Md_features s0), (Md_parts s0), (Md_fields s0), (Md_pushedFeatures s0), (Md_pushedParts s0), (Md_pushed s0), (Md_touched s0), (Md_touches s0), (Md_reached s0), (Md_blocks s0), (Md_newBlocks s0), (Md_places s0), (Md_written s0), (Md_other s0), (Md_length s0)) ad0 _ _ out k hm (by omega) (by omega) (fun ad => x_cs (by omega) (by omega) (KX ad))))
        · rfl
        · rfl
set_option maxHeartbeats 4000000 in
set_option maxRecDepth 100000 in
theorem c_Md_sweep (l : Launch) (D : va_G) (cA : Nat → ClassId) (n : Nat) (ob0 ad0 : Nat → Nat) (s0 : S_Md)  (out : Int32 × S_Md) (k : KC) (hm : m_Md_sweep n s0  = some (out, k)) : XM l D cA y_Md_sweep b_Md_sweep 5 (some FieldType.int) 2 45 [.ref (ob0 0)] ((w_Md cA ob0 ad0  s0)) k (fun _ => some (.int (out.1))) (fun ad => (w_Md cA ob0 ad  (out.2))) := by
  refine x_met (cc := b_Md_sweep) (nL := 5) (ret := (some FieldType.int)) R_Md (by decide) (Nat.le_of_ble_eq_true rfl) rfl (fun X F I E => ?_)
  unfold m_Md_sweep at hm
  refine x_nf2 (ws' := [((ob0 0), .inr (8, [.ref (ob0 1), .ref (ob0 2), .ref (ob0 3), .ref (ob0 4), .ref (ob0 5), .ref (ob0 6), .ref (ob0 7), .ref (ob0 8), .ref (ob0 9), .int (Md_end s0), .int (Md_nodes s0), .ref (ob0 10), .ref (ob0 11), .int (Md_fields s0), .ref (ob0 12), .ref (ob0 13), .int (Md_pushed s0), .ref (ob0 14), .int (Md_touches s0), .ref (ob0 15), .ref (ob0 16), .ref (ob0 17), .ref (ob0 18), .ref (ad0 0), .ref (ad0 1), .int (Md_length s0)])), ((ob0 1), .inl (cA 1, (Md_kinds s0).1, .inl (Md_kinds s0).2)), ((ob0 2), .inl (cA 0, (Md_values s0).1, .inl (Md_values s0).2)), ((ob0 3), .inl (cA 0, (Md_firsts s0).1, .inl (Md_firsts s0).2)), ((ob0 4), .inl (cA 0, (Md_manies s0).1, .inl (Md_manies s0).2)), ((ob0 5), .inl (cA 2, (Md_said s0).1, .inl (Md_said s0).2)), ((ob0 6), .inl (cA 2, (Md_marked s0).1, .inl (Md_marked s0).2)), ((ob0 7), .inl (cA 0, (Md_leaders s0).1, .inl (Md_leaders s0).2)), ((ob0 8), .inl (cA 0, (Md_trial s0).1, .inl (Md_trial s0).2)), ((ob0 9), .inl (cA 0, (Md_shown s0).1, .inl (Md_shown s0).2)), ((ob0 10), .inl (cA 0, (Md_features s0).1, .inl (Md_features s0).2)), ((ob0 11), .inl (cA 0, (Md_parts s0).1, .inl (Md_parts s0).2)), ((ob0 12), .inl (cA 0, (Md_pushedFeatures s0).1, .inl (Md_pushedFeatures s0).2)), ((ob0 13), .inl (cA 0, (Md_pushedParts s0).1, .inl (Md_pushedParts s0).2)), ((ob0 14), .inl (cA 0, (Md_touched s0).1, .inl (Md_touched s0).2)), ((ob0 15), .inl (cA 0, (Md_reached s0).1, .inl (Md_reached s0).2)), ((ob0 16), .inl (cA 0, (Md_blocks s0).1, .inl (Md_blocks s0).2)), ((ob0 17), .inl (cA 0, (Md_newBlocks s0).1, .inl (Md_newBlocks s0).2)), ((ob0 18), .inl (cA 0, (Md_places s0).1, .inl (Md_places s0).2)), ((ad0 0), .inl (cA 0, (Md_written s0).1, .inl (Md_written s0).2)), ((ad0 1), .inl (cA 0, (Md_other s0).1, .inl (Md_other s0).2))]) (lv' := [(0, .ref (ob0 0))]) rfl rfl ?_
  refine x_iconst (v := (0 : Int32)) F d_Md_sweep_0 (by decide) ?_
  refine x_istore_n (lv' := [(1, .int (0 : Int32)), (0, .ref (ob0 0))]) F d_Md_sweep_1 rfl (by decide) rfl ?_
  replace hm := xm_b_some hm
  obtain ⟨o82, k83, k84, h85, hm, c_o82, d_o82⟩ := hm
  refine x_sub [0, 1, 2, 3, 4, 5, 6, 7, 8, 9, 10, 11, 12, 13, 14, 15, 16, 17, 18, 19, 20] (by decide) ?_ (x_lv [1, 0] ?_ (wl_Md_sweep_2 F n ob0   n (0 : Int32) s0 ad0 _ _ o82 k83 h85 (by omega) (by omega) (fun ad86 => ?_)))
  · rfl
  · rfl
  refine x_nf2 (ws' := [((ob0 0), .inr (8, [.ref (ob0 1), .ref (ob0 2), .ref (ob0 3), .ref (ob0 4), .ref (ob0 5), .ref (ob0 6), .ref (ob0 7), .ref (ob0 8), .ref (ob0 9), .int (Md_end (o82.2)), .int (Md_nodes (o82.2)), .ref (ob0 10), .ref (ob0 11), .int (Md_fields (o82.2)), .ref (ob0 12), .ref (ob0 13), .int (Md_pushed (o82.2)), .ref (ob0 14), .int (Md_touches (o82.2)), .ref (ob0 15), .ref (ob0 16), .ref (ob0 17), .ref (ob0 18), .ref (ad86 0), .ref (ad86 1), .int (Md_length (o82.2))])), ((ob0 1), .inl (cA 1, (Md_kinds (o82.2)).1, .inl (Md_kinds (o82.2)).2)), ((ob0 2), .inl (cA 0, (Md_values (o82.2)).1, .inl (Md_values (o82.2)).2)), ((ob0 3), .inl (cA 0, (Md_firsts (o82.2)).1, .inl (Md_firsts (o82.2)).2)), ((ob0 4), .inl (cA 0, (Md_manies (o82.2)).1, .inl (Md_manies (o82.2)).2)), ((ob0 5), .inl (cA 2, (Md_said (o82.2)).1, .inl (Md_said (o82.2)).2)), ((ob0 6), .inl (cA 2, (Md_marked (o82.2)).1, .inl (Md_marked (o82.2)).2)), ((ob0 7), .inl (cA 0, (Md_leaders (o82.2)).1, .inl (Md_leaders (o82.2)).2)), ((ob0 8), .inl (cA 0, (Md_trial (o82.2)).1, .inl (Md_trial (o82.2)).2)), ((ob0 9), .inl (cA 0, (Md_shown (o82.2)).1, .inl (Md_shown (o82.2)).2)), ((ob0 10), .inl (cA 0, (Md_features (o82.2)).1, .inl (Md_features (o82.2)).2)), ((ob0 11), .inl (cA 0, (Md_parts (o82.2)).1, .inl (Md_parts (o82.2)).2)), ((ob0 12), .inl (cA 0, (Md_pushedFeatures (o82.2)).1, .inl (Md_pushedFeatures (o82.2)).2)), ((ob0 13), .inl (cA 0, (Md_pushedParts (o82.2)).1, .inl (Md_pushedParts (o82.2)).2)), ((ob0 14), .inl (cA 0, (Md_touched (o82.2)).1, .inl (Md_touched (o82.2)).2)), ((ob0 15), .inl (cA 0, (Md_reached (o82.2)).1, .inl (Md_reached (o82.2)).2)), ((ob0 16), .inl (cA 0, (Md_blocks (o82.2)).1, .inl (Md_blocks (o82.2)).2)), ((ob0 17), .inl (cA 0, (Md_newBlocks (o82.2)).1, .inl (Md_newBlocks (o82.2)).2)), ((ob0 18), .inl (cA 0, (Md_places (o82.2)).1, .inl (Md_places (o82.2)).2)), ((ad86 0), .inl (cA 0, (Md_written (o82.2)).1, .inl (Md_written (o82.2)).2)), ((ad86 1), .inl (cA 0, (Md_other (o82.2)).1, .inl (Md_other (o82.2)).2))]) (lv' := [(0, .ref (ob0 0)), (1, .int (o82.1))]) rfl rfl ?_
  refine x_aload_n F d_Md_sweep_75 0 rfl rfl ?_
  refine x_get F ck_Md hin_Md 0 10 rfl (by decide) kw_644 rfl rfl d_Md_sweep_76 ?_
  refine x_istore_n (lv' := [(1, .int (Md_nodes (o82.2))), (0, .ref (ob0 0))]) F d_Md_sweep_79 rfl (by decide) rfl ?_
  refine x_aload_n F d_Md_sweep_80 1 rfl rfl ?_
  refine x_iconst (v := (0 : Int32)) F d_Md_sweep_81 (by decide) ?_
  refine x_put (ws' := [((ob0 0), .inr (8, [.ref (ob0 1), .ref (ob0 2), .ref (ob0 3), .ref (ob0 4), .ref (ob0 5), .ref (ob0 6), .ref (ob0 7), .ref (ob0 8), .ref (ob0 9), .int (Md_end (o82.2)), .int (0 : Int32), .ref (ob0 10), .ref (ob0 11), .int (Md_fields (o82.2)), .ref (ob0 12), .ref (ob0 13), .int (Md_pushed (o82.2)), .ref (ob0 14), .int (Md_touches (o82.2)), .ref (ob0 15), .ref (ob0 16), .ref (ob0 17), .ref (ob0 18), .ref (ad86 0), .ref (ad86 1), .int (Md_length (o82.2))])), ((ob0 1), .inl (cA 1, (Md_kinds (o82.2)).1, .inl (Md_kinds (o82.2)).2)), ((ob0 2), .inl (cA 0, (Md_values (o82.2)).1, .inl (Md_values (o82.2)).2)), ((ob0 3), .inl (cA 0, (Md_firsts (o82.2)).1, .inl (Md_firsts (o82.2)).2)), ((ob0 4), .inl (cA 0, (Md_manies (o82.2)).1, .inl (Md_manies (o82.2)).2)), ((ob0 5), .inl (cA 2, (Md_said (o82.2)).1, .inl (Md_said (o82.2)).2)), ((ob0 6), .inl (cA 2, (Md_marked (o82.2)).1, .inl (Md_marked (o82.2)).2)), ((ob0 7), .inl (cA 0, (Md_leaders (o82.2)).1, .inl (Md_leaders (o82.2)).2)), ((ob0 8), .inl (cA 0, (Md_trial (o82.2)).1, .inl (Md_trial (o82.2)).2)), ((ob0 9), .inl (cA 0, (Md_shown (o82.2)).1, .inl (Md_shown (o82.2)).2)), ((ob0 10), .inl (cA 0, (Md_features (o82.2)).1, .inl (Md_features (o82.2)).2)), ((ob0 11), .inl (cA 0, (Md_parts (o82.2)).1, .inl (Md_parts (o82.2)).2)), ((ob0 12), .inl (cA 0, (Md_pushedFeatures (o82.2)).1, .inl (Md_pushedFeatures (o82.2)).2)), ((ob0 13), .inl (cA 0, (Md_pushedParts (o82.2)).1, .inl (Md_pushedParts (o82.2)).2)), ((ob0 14), .inl (cA 0, (Md_touched (o82.2)).1, .inl (Md_touched (o82.2)).2)), ((ob0 15), .inl (cA 0, (Md_reached (o82.2)).1, .inl (Md_reached (o82.2)).2)), ((ob0 16), .inl (cA 0, (Md_blocks (o82.2)).1, .inl (Md_blocks (o82.2)).2)), ((ob0 17), .inl (cA 0, (Md_newBlocks (o82.2)).1, .inl (Md_newBlocks (o82.2)).2)), ((ob0 18), .inl (cA 0, (Md_places (o82.2)).1, .inl (Md_places (o82.2)).2)), ((ad86 0), .inl (cA 0, (Md_written (o82.2)).1, .inl (Md_written (o82.2)).2)), ((ad86 1), .inl (cA 0, (Md_other (o82.2)).1, .inl (Md_other (o82.2)).2))]) F ck_Md hin_Md 0 10 rfl (by decide) kw_644 rfl rfl rfl rfl (Nat.le_of_ble_eq_true rfl) rfl d_Md_sweep_82 ?_
  refine x_iconst (v := (0 : Int32)) F d_Md_sweep_85 (by decide) ?_
  refine x_istore_n (lv' := [(2, .int (0 : Int32)), (1, .int (Md_nodes (o82.2))), (0, .ref (ob0 0))]) F d_Md_sweep_86 rfl (by decide) rfl ?_
  replace hm := xm_b_some hm
  obtain ⟨o127, k128, k129, h130, hm, c_o127, d_o127⟩ := hm
  refine x_sub [0, 1, 2, 3, 4, 5, 6, 7, 8, 9, 10, 11, 12, 13, 14, 15, 16, 17, 18, 19, 20] (by decide) ?_ (x_lv [2, 1, 0] ?_ (wl_Md_sweep_87 F n ob0 (Md_nodes (o82.2))  n (0 : Int32) ((Md_kinds (o82.2)), (Md_values (o82.2)), (Md_firsts (o82.2)), (Md_manies (o82.2)), (Md_said (o82.2)), (Md_marked (o82.2)), (Md_leaders (o82.2)), (Md_trial (o82.2)), (Md_shown (o82.2)), (Md_end (o82.2)), (0 : Int32), (Md_features (o82.2)), (Md_parts (o82.2)), (Md_fields (o82.2)), (Md_pushedFeatures (o82.2)), (Md_pushedParts (o82.2)), (Md_pushed (o82.2)), (Md_touched (o82.2)), (Md_touches (o82.2)), (Md_reached (o82.2)), (Md_blocks (o82.2)), (Md_newBlocks (o82.2)), (Md_places (o82.2)), (Md_written (o82.2)), (Md_other (o82.2)), (Md_length (o82.2))) ad86 _ _ o127 k128 h130 (by omega) (by omega) (fun ad131 => ?_)))
  · rfl
  · rfl
  refine x_nf2 (ws' := [((ob0 0), .inr (8, [.ref (ob0 1), .ref (ob0 2), .ref (ob0 3), .ref (ob0 4), .ref (ob0 5), .ref (ob0 6), .ref (ob0 7), .ref (ob0 8), .ref (ob0 9), .int (Md_end (o127.2)), .int (Md_nodes (o127.2)), .ref (ob0 10), .ref (ob0 11), .int (Md_fields (o127.2)), .ref (ob0 12), .ref (ob0 13), .int (Md_pushed (o127.2)), .ref (ob0 14), .int (Md_touches (o127.2)), .ref (ob0 15), .ref (ob0 16), .ref (ob0 17), .ref (ob0 18), .ref (ad131 0), .ref (ad131 1), .int (Md_length (o127.2))])), ((ob0 1), .inl (cA 1, (Md_kinds (o127.2)).1, .inl (Md_kinds (o127.2)).2)), ((ob0 2), .inl (cA 0, (Md_values (o127.2)).1, .inl (Md_values (o127.2)).2)), ((ob0 3), .inl (cA 0, (Md_firsts (o127.2)).1, .inl (Md_firsts (o127.2)).2)), ((ob0 4), .inl (cA 0, (Md_manies (o127.2)).1, .inl (Md_manies (o127.2)).2)), ((ob0 5), .inl (cA 2, (Md_said (o127.2)).1, .inl (Md_said (o127.2)).2)), ((ob0 6), .inl (cA 2, (Md_marked (o127.2)).1, .inl (Md_marked (o127.2)).2)), ((ob0 7), .inl (cA 0, (Md_leaders (o127.2)).1, .inl (Md_leaders (o127.2)).2)), ((ob0 8), .inl (cA 0, (Md_trial (o127.2)).1, .inl (Md_trial (o127.2)).2)), ((ob0 9), .inl (cA 0, (Md_shown (o127.2)).1, .inl (Md_shown (o127.2)).2)), ((ob0 10), .inl (cA 0, (Md_features (o127.2)).1, .inl (Md_features (o127.2)).2)), ((ob0 11), .inl (cA 0, (Md_parts (o127.2)).1, .inl (Md_parts (o127.2)).2)), ((ob0 12), .inl (cA 0, (Md_pushedFeatures (o127.2)).1, .inl (Md_pushedFeatures (o127.2)).2)), ((ob0 13), .inl (cA 0, (Md_pushedParts (o127.2)).1, .inl (Md_pushedParts (o127.2)).2)), ((ob0 14), .inl (cA 0, (Md_touched (o127.2)).1, .inl (Md_touched (o127.2)).2)), ((ob0 15), .inl (cA 0, (Md_reached (o127.2)).1, .inl (Md_reached (o127.2)).2)), ((ob0 16), .inl (cA 0, (Md_blocks (o127.2)).1, .inl (Md_blocks (o127.2)).2)), ((ob0 17), .inl (cA 0, (Md_newBlocks (o127.2)).1, .inl (Md_newBlocks (o127.2)).2)), ((ob0 18), .inl (cA 0, (Md_places (o127.2)).1, .inl (Md_places (o127.2)).2)), ((ad131 0), .inl (cA 0, (Md_written (o127.2)).1, .inl (Md_written (o127.2)).2)), ((ad131 1), .inl (cA 0, (Md_other (o127.2)).1, .inl (Md_other (o127.2)).2))]) (lv' := [(0, .ref (ob0 0)), (1, .int (Md_nodes (o82.2))), (2, .int (o127.1))]) rfl rfl ?_
  refine x_iconst (v := (0 : Int32)) F d_Md_sweep_246 (by decide) ?_
  refine x_istore_n (lv' := [(2, .int (0 : Int32)), (0, .ref (ob0 0)), (1, .int (Md_nodes (o82.2)))]) F d_Md_sweep_247 rfl (by decide) rfl ?_
  replace hm := xm_b_some hm
  obtain ⟨o136, k137, k138, h139, hm, c_o136, d_o136⟩ := hm
  refine x_sub [0, 1, 2, 3, 4, 5, 6, 7, 8, 9, 10, 11, 12, 13, 14, 15, 16, 17, 18, 19, 20] (by decide) ?_ (x_lv [1, 2, 0] ?_ (wl_Md_sweep_248 F n ob0 (Md_nodes (o82.2))  n (0 : Int32) (o127.2) ad131 _ _ o136 k137 h139 (by omega) (by omega) (fun ad140 => ?_)))
  · rfl
  · rfl
  refine x_nf2 (ws' := [((ob0 0), .inr (8, [.ref (ob0 1), .ref (ob0 2), .ref (ob0 3), .ref (ob0 4), .ref (ob0 5), .ref (ob0 6), .ref (ob0 7), .ref (ob0 8), .ref (ob0 9), .int (Md_end (o136.2)), .int (Md_nodes (o136.2)), .ref (ob0 10), .ref (ob0 11), .int (Md_fields (o136.2)), .ref (ob0 12), .ref (ob0 13), .int (Md_pushed (o136.2)), .ref (ob0 14), .int (Md_touches (o136.2)), .ref (ob0 15), .ref (ob0 16), .ref (ob0 17), .ref (ob0 18), .ref (ad140 0), .ref (ad140 1), .int (Md_length (o136.2))])), ((ob0 1), .inl (cA 1, (Md_kinds (o136.2)).1, .inl (Md_kinds (o136.2)).2)), ((ob0 2), .inl (cA 0, (Md_values (o136.2)).1, .inl (Md_values (o136.2)).2)), ((ob0 3), .inl (cA 0, (Md_firsts (o136.2)).1, .inl (Md_firsts (o136.2)).2)), ((ob0 4), .inl (cA 0, (Md_manies (o136.2)).1, .inl (Md_manies (o136.2)).2)), ((ob0 5), .inl (cA 2, (Md_said (o136.2)).1, .inl (Md_said (o136.2)).2)), ((ob0 6), .inl (cA 2, (Md_marked (o136.2)).1, .inl (Md_marked (o136.2)).2)), ((ob0 7), .inl (cA 0, (Md_leaders (o136.2)).1, .inl (Md_leaders (o136.2)).2)), ((ob0 8), .inl (cA 0, (Md_trial (o136.2)).1, .inl (Md_trial (o136.2)).2)), ((ob0 9), .inl (cA 0, (Md_shown (o136.2)).1, .inl (Md_shown (o136.2)).2)), ((ob0 10), .inl (cA 0, (Md_features (o136.2)).1, .inl (Md_features (o136.2)).2)), ((ob0 11), .inl (cA 0, (Md_parts (o136.2)).1, .inl (Md_parts (o136.2)).2)), ((ob0 12), .inl (cA 0, (Md_pushedFeatures (o136.2)).1, .inl (Md_pushedFeatures (o136.2)).2)), ((ob0 13), .inl (cA 0, (Md_pushedParts (o136.2)).1, .inl (Md_pushedParts (o136.2)).2)), ((ob0 14), .inl (cA 0, (Md_touched (o136.2)).1, .inl (Md_touched (o136.2)).2)), ((ob0 15), .inl (cA 0, (Md_reached (o136.2)).1, .inl (Md_reached (o136.2)).2)), ((ob0 16), .inl (cA 0, (Md_blocks (o136.2)).1, .inl (Md_blocks (o136.2)).2)), ((ob0 17), .inl (cA 0, (Md_newBlocks (o136.2)).1, .inl (Md_newBlocks (o136.2)).2)), ((ob0 18), .inl (cA 0, (Md_places (o136.2)).1, .inl (Md_places (o136.2)).2)), ((ad140 0), .inl (cA 0, (Md_written (o136.2)).1, .inl (Md_written (o136.2)).2)), ((ad140 1), .inl (cA 0, (Md_other (o136.2)).1, .inl (Md_other (o136.2)).2))]) (lv' := [(0, .ref (ob0 0)), (1, .int (Md_nodes (o82.2))), (2, .int (o136.1))]) rfl rfl ?_
  refine x_aload_n F d_Md_sweep_278 0 rfl rfl ?_
  replace hm := xm_b_some hm
  obtain ⟨o141, k142, k143, h144, hm, c_o141, d_o141⟩ := hm
  refine x_callV (n := 0) (C := R_Md) (wr := []) F (c_Md_pack l D cA n ob0 ad140 (o136.2)  o141 k142 h144) kw_872 kw_869 kw_871 kw_37 kw_47 ⟨rfl, by decide, by decide, by decide +kernel⟩ rfl (by decide) (by decide) (ci := 8) rfl rfl 0 rfl [0, 1, 2, 3, 4, 5, 6, 7, 8, 9, 10, 11, 12, 13, 14, 15, 16, 17, 18, 19, 20] [] rfl rfl (by decide) (by decide) (by decide) rfl (Nat.le_of_ble_eq_true rfl) (by omega) (by omega) d_Md_sweep_279 (fun ad145 => ?_)
  refine x_nf (ws' := [((ob0 0), .inr (8, [.ref (ob0 1), .ref (ob0 2), .ref (ob0 3), .ref (ob0 4), .ref (ob0 5), .ref (ob0 6), .ref (ob0 7), .ref (ob0 8), .ref (ob0 9), .int (Md_end o141), .int (Md_nodes o141), .ref (ob0 10), .ref (ob0 11), .int (Md_fields o141), .ref (ob0 12), .ref (ob0 13), .int (Md_pushed o141), .ref (ob0 14), .int (Md_touches o141), .ref (ob0 15), .ref (ob0 16), .ref (ob0 17), .ref (ob0 18), .ref (ad145 0), .ref (ad145 1), .int (Md_length o141)])), ((ob0 1), .inl (cA 1, (Md_kinds o141).1, .inl (Md_kinds o141).2)), ((ob0 2), .inl (cA 0, (Md_values o141).1, .inl (Md_values o141).2)), ((ob0 3), .inl (cA 0, (Md_firsts o141).1, .inl (Md_firsts o141).2)), ((ob0 4), .inl (cA 0, (Md_manies o141).1, .inl (Md_manies o141).2)), ((ob0 5), .inl (cA 2, (Md_said o141).1, .inl (Md_said o141).2)), ((ob0 6), .inl (cA 2, (Md_marked o141).1, .inl (Md_marked o141).2)), ((ob0 7), .inl (cA 0, (Md_leaders o141).1, .inl (Md_leaders o141).2)), ((ob0 8), .inl (cA 0, (Md_trial o141).1, .inl (Md_trial o141).2)), ((ob0 9), .inl (cA 0, (Md_shown o141).1, .inl (Md_shown o141).2)), ((ob0 10), .inl (cA 0, (Md_features o141).1, .inl (Md_features o141).2)), ((ob0 11), .inl (cA 0, (Md_parts o141).1, .inl (Md_parts o141).2)), ((ob0 12), .inl (cA 0, (Md_pushedFeatures o141).1, .inl (Md_pushedFeatures o141).2)), ((ob0 13), .inl (cA 0, (Md_pushedParts o141).1, .inl (Md_pushedParts o141).2)), ((ob0 14), .inl (cA 0, (Md_touched o141).1, .inl (Md_touched o141).2)), ((ob0 15), .inl (cA 0, (Md_reached o141).1, .inl (Md_reached o141).2)), ((ob0 16), .inl (cA 0, (Md_blocks o141).1, .inl (Md_blocks o141).2)), ((ob0 17), .inl (cA 0, (Md_newBlocks o141).1, .inl (Md_newBlocks o141).2)), ((ob0 18), .inl (cA 0, (Md_places o141).1, .inl (Md_places o141).2)), ((ad145 0), .inl (cA 0, (Md_written o141).1, .inl (Md_written o141).2)), ((ad145 1), .inl (cA 0, (Md_other o141).1, .inl (Md_other o141).2))]) (st' := []) rfl rfl ?_
  refine x_iconst (v := (0 : Int32)) F d_Md_sweep_282 (by decide) ?_
  refine x_istore_n (lv' := [(2, .int (0 : Int32)), (0, .ref (ob0 0)), (1, .int (Md_nodes (o82.2)))]) F d_Md_sweep_283 rfl (by decide) rfl ?_
  replace hm := xm_b_some hm
  obtain ⟨o149, k150, k151, h152, hm, c_o149, d_o149⟩ := hm
  refine x_sub [0, 1, 2, 3, 4, 5, 6, 7, 8, 9, 10, 11, 12, 13, 14, 15, 16, 17, 18, 19, 20] (by decide) ?_ (x_lv [1, 2, 0] ?_ (wl_Md_sweep_284 F n ob0 (Md_nodes (o82.2))  n (0 : Int32) o141 ad145 _ _ o149 k150 h152 (by omega) (by omega) (fun ad153 => ?_)))
  · rfl
  · rfl
  refine x_nf2 (ws' := [((ob0 0), .inr (8, [.ref (ob0 1), .ref (ob0 2), .ref (ob0 3), .ref (ob0 4), .ref (ob0 5), .ref (ob0 6), .ref (ob0 7), .ref (ob0 8), .ref (ob0 9), .int (Md_end (o149.2)), .int (Md_nodes (o149.2)), .ref (ob0 10), .ref (ob0 11), .int (Md_fields (o149.2)), .ref (ob0 12), .ref (ob0 13), .int (Md_pushed (o149.2)), .ref (ob0 14), .int (Md_touches (o149.2)), .ref (ob0 15), .ref (ob0 16), .ref (ob0 17), .ref (ob0 18), .ref (ad153 0), .ref (ad153 1), .int (Md_length (o149.2))])), ((ob0 1), .inl (cA 1, (Md_kinds (o149.2)).1, .inl (Md_kinds (o149.2)).2)), ((ob0 2), .inl (cA 0, (Md_values (o149.2)).1, .inl (Md_values (o149.2)).2)), ((ob0 3), .inl (cA 0, (Md_firsts (o149.2)).1, .inl (Md_firsts (o149.2)).2)), ((ob0 4), .inl (cA 0, (Md_manies (o149.2)).1, .inl (Md_manies (o149.2)).2)), ((ob0 5), .inl (cA 2, (Md_said (o149.2)).1, .inl (Md_said (o149.2)).2)), ((ob0 6), .inl (cA 2, (Md_marked (o149.2)).1, .inl (Md_marked (o149.2)).2)), ((ob0 7), .inl (cA 0, (Md_leaders (o149.2)).1, .inl (Md_leaders (o149.2)).2)), ((ob0 8), .inl (cA 0, (Md_trial (o149.2)).1, .inl (Md_trial (o149.2)).2)), ((ob0 9), .inl (cA 0, (Md_shown (o149.2)).1, .inl (Md_shown (o149.2)).2)), ((ob0 10), .inl (cA 0, (Md_features (o149.2)).1, .inl (Md_features (o149.2)).2)), ((ob0 11), .inl (cA 0, (Md_parts (o149.2)).1, .inl (Md_parts (o149.2)).2)), ((ob0 12), .inl (cA 0, (Md_pushedFeatures (o149.2)).1, .inl (Md_pushedFeatures (o149.2)).2)), ((ob0 13), .inl (cA 0, (Md_pushedParts (o149.2)).1, .inl (Md_pushedParts (o149.2)).2)), ((ob0 14), .inl (cA 0, (Md_touched (o149.2)).1, .inl (Md_touched (o149.2)).2)), ((ob0 15), .inl (cA 0, (Md_reached (o149.2)).1, .inl (Md_reached (o149.2)).2)), ((ob0 16), .inl (cA 0, (Md_blocks (o149.2)).1, .inl (Md_blocks (o149.2)).2)), ((ob0 17), .inl (cA 0, (Md_newBlocks (o149.2)).1, .inl (Md_newBlocks (o149.2)).2)), ((ob0 18), .inl (cA 0, (Md_places (o149.2)).1, .inl (Md_places (o149.2)).2)), ((ad153 0), .inl (cA 0, (Md_written (o149.2)).1, .inl (Md_written (o149.2)).2)), ((ad153 1), .inl (cA 0, (Md_other (o149.2)).1, .inl (Md_other (o149.2)).2))]) (lv' := [(0, .ref (ob0 0)), (1, .int (Md_nodes (o82.2))), (2, .int (o149.1))]) rfl rfl ?_
  replace hm := xm_b_some hm
  obtain ⟨o157, k158, k159, h160, hm, c_o157, d_o157⟩ := hm
  refine x_sub [0, 1, 2, 3, 4, 5, 6, 7, 8, 9, 10, 11, 12, 13, 14, 15, 16, 17, 18, 19, 20] (by decide) ?_ (x_lv [0, 1, 2] ?_ (wl_Md_sweep_312 F n ob0 (Md_nodes (o82.2)) (o149.1)  n (o149.2) ad153 _ _ o157 k158 h160 (by omega) (by omega) (fun ad161 => ?_)))
  · rfl
  · rfl
  refine x_nf2 (ws' := [((ob0 0), .inr (8, [.ref (ob0 1), .ref (ob0 2), .ref (ob0 3), .ref (ob0 4), .ref (ob0 5), .ref (ob0 6), .ref (ob0 7), .ref (ob0 8), .ref (ob0 9), .int (Md_end o157), .int (Md_nodes o157), .ref (ob0 10), .ref (ob0 11), .int (Md_fields o157), .ref (ob0 12), .ref (ob0 13), .int (Md_pushed o157), .ref (ob0 14), .int (Md_touches o157), .ref (ob0 15), .ref (ob0 16), .ref (ob0 17), .ref (ob0 18), .ref (ad161 0), .ref (ad161 1), .int (Md_length o157)])), ((ob0 1), .inl (cA 1, (Md_kinds o157).1, .inl (Md_kinds o157).2)), ((ob0 2), .inl (cA 0, (Md_values o157).1, .inl (Md_values o157).2)), ((ob0 3), .inl (cA 0, (Md_firsts o157).1, .inl (Md_firsts o157).2)), ((ob0 4), .inl (cA 0, (Md_manies o157).1, .inl (Md_manies o157).2)), ((ob0 5), .inl (cA 2, (Md_said o157).1, .inl (Md_said o157).2)), ((ob0 6), .inl (cA 2, (Md_marked o157).1, .inl (Md_marked o157).2)), ((ob0 7), .inl (cA 0, (Md_leaders o157).1, .inl (Md_leaders o157).2)), ((ob0 8), .inl (cA 0, (Md_trial o157).1, .inl (Md_trial o157).2)), ((ob0 9), .inl (cA 0, (Md_shown o157).1, .inl (Md_shown o157).2)), ((ob0 10), .inl (cA 0, (Md_features o157).1, .inl (Md_features o157).2)), ((ob0 11), .inl (cA 0, (Md_parts o157).1, .inl (Md_parts o157).2)), ((ob0 12), .inl (cA 0, (Md_pushedFeatures o157).1, .inl (Md_pushedFeatures o157).2)), ((ob0 13), .inl (cA 0, (Md_pushedParts o157).1, .inl (Md_pushedParts o157).2)), ((ob0 14), .inl (cA 0, (Md_touched o157).1, .inl (Md_touched o157).2)), ((ob0 15), .inl (cA 0, (Md_reached o157).1, .inl (Md_reached o157).2)), ((ob0 16), .inl (cA 0, (Md_blocks o157).1, .inl (Md_blocks o157).2)), ((ob0 17), .inl (cA 0, (Md_newBlocks o157).1, .inl (Md_newBlocks o157).2)), ((ob0 18), .inl (cA 0, (Md_places o157).1, .inl (Md_places o157).2)), ((ad161 0), .inl (cA 0, (Md_written o157).1, .inl (Md_written o157).2)), ((ad161 1), .inl (cA 0, (Md_other o157).1, .inl (Md_other o157).2))]) (lv' := [(0, .ref (ob0 0)), (1, .int (Md_nodes (o82.2))), (2, .int (o149.1))]) rfl rfl ?_
  refine x_aload_n F d_Md_sweep_347 0 rfl rfl ?_
  refine x_iconst (v := (0 : Int32)) F d_Md_sweep_348 (by decide) ?_
  refine x_put (ws' := [((ob0 0), .inr (8, [.ref (ob0 1), .ref (ob0 2), .ref (ob0 3), .ref (ob0 4), .ref (ob0 5), .ref (ob0 6), .ref (ob0 7), .ref (ob0 8), .ref (ob0 9), .int (Md_end o157), .int (Md_nodes o157), .ref (ob0 10), .ref (ob0 11), .int (Md_fields o157), .ref (ob0 12), .ref (ob0 13), .int (0 : Int32), .ref (ob0 14), .int (Md_touches o157), .ref (ob0 15), .ref (ob0 16), .ref (ob0 17), .ref (ob0 18), .ref (ad161 0), .ref (ad161 1), .int (Md_length o157)])), ((ob0 1), .inl (cA 1, (Md_kinds o157).1, .inl (Md_kinds o157).2)), ((ob0 2), .inl (cA 0, (Md_values o157).1, .inl (Md_values o157).2)), ((ob0 3), .inl (cA 0, (Md_firsts o157).1, .inl (Md_firsts o157).2)), ((ob0 4), .inl (cA 0, (Md_manies o157).1, .inl (Md_manies o157).2)), ((ob0 5), .inl (cA 2, (Md_said o157).1, .inl (Md_said o157).2)), ((ob0 6), .inl (cA 2, (Md_marked o157).1, .inl (Md_marked o157).2)), ((ob0 7), .inl (cA 0, (Md_leaders o157).1, .inl (Md_leaders o157).2)), ((ob0 8), .inl (cA 0, (Md_trial o157).1, .inl (Md_trial o157).2)), ((ob0 9), .inl (cA 0, (Md_shown o157).1, .inl (Md_shown o157).2)), ((ob0 10), .inl (cA 0, (Md_features o157).1, .inl (Md_features o157).2)), ((ob0 11), .inl (cA 0, (Md_parts o157).1, .inl (Md_parts o157).2)), ((ob0 12), .inl (cA 0, (Md_pushedFeatures o157).1, .inl (Md_pushedFeatures o157).2)), ((ob0 13), .inl (cA 0, (Md_pushedParts o157).1, .inl (Md_pushedParts o157).2)), ((ob0 14), .inl (cA 0, (Md_touched o157).1, .inl (Md_touched o157).2)), ((ob0 15), .inl (cA 0, (Md_reached o157).1, .inl (Md_reached o157).2)), ((ob0 16), .inl (cA 0, (Md_blocks o157).1, .inl (Md_blocks o157).2)), ((ob0 17), .inl (cA 0, (Md_newBlocks o157).1, .inl (Md_newBlocks o157).2)), ((ob0 18), .inl (cA 0, (Md_places o157).1, .inl (Md_places o157).2)), ((ad161 0), .inl (cA 0, (Md_written o157).1, .inl (Md_written o157).2)), ((ad161 1), .inl (cA 0, (Md_other o157).1, .inl (Md_other o157).2))]) F ck_Md hin_Md 0 16 rfl (by decide) kw_650 rfl rfl rfl rfl (Nat.le_of_ble_eq_true rfl) rfl d_Md_sweep_349 ?_
  refine x_aload_n F d_Md_sweep_352 0 rfl rfl ?_
  refine x_iconst (v := (0 : Int32)) F d_Md_sweep_353 (by decide) ?_
  refine x_put (ws' := [((ob0 0), .inr (8, [.ref (ob0 1), .ref (ob0 2), .ref (ob0 3), .ref (ob0 4), .ref (ob0 5), .ref (ob0 6), .ref (ob0 7), .ref (ob0 8), .ref (ob0 9), .int (Md_end o157), .int (Md_nodes o157), .ref (ob0 10), .ref (ob0 11), .int (Md_fields o157), .ref (ob0 12), .ref (ob0 13), .int (0 : Int32), .ref (ob0 14), .int (0 : Int32), .ref (ob0 15), .ref (ob0 16), .ref (ob0 17), .ref (ob0 18), .ref (ad161 0), .ref (ad161 1), .int (Md_length o157)])), ((ob0 1), .inl (cA 1, (Md_kinds o157).1, .inl (Md_kinds o157).2)), ((ob0 2), .inl (cA 0, (Md_values o157).1, .inl (Md_values o157).2)), ((ob0 3), .inl (cA 0, (Md_firsts o157).1, .inl (Md_firsts o157).2)), ((ob0 4), .inl (cA 0, (Md_manies o157).1, .inl (Md_manies o157).2)), ((ob0 5), .inl (cA 2, (Md_said o157).1, .inl (Md_said o157).2)), ((ob0 6), .inl (cA 2, (Md_marked o157).1, .inl (Md_marked o157).2)), ((ob0 7), .inl (cA 0, (Md_leaders o157).1, .inl (Md_leaders o157).2)), ((ob0 8), .inl (cA 0, (Md_trial o157).1, .inl (Md_trial o157).2)), ((ob0 9), .inl (cA 0, (Md_shown o157).1, .inl (Md_shown o157).2)), ((ob0 10), .inl (cA 0, (Md_features o157).1, .inl (Md_features o157).2)), ((ob0 11), .inl (cA 0, (Md_parts o157).1, .inl (Md_parts o157).2)), ((ob0 12), .inl (cA 0, (Md_pushedFeatures o157).1, .inl (Md_pushedFeatures o157).2)), ((ob0 13), .inl (cA 0, (Md_pushedParts o157).1, .inl (Md_pushedParts o157).2)), ((ob0 14), .inl (cA 0, (Md_touched o157).1, .inl (Md_touched o157).2)), ((ob0 15), .inl (cA 0, (Md_reached o157).1, .inl (Md_reached o157).2)), ((ob0 16), .inl (cA 0, (Md_blocks o157).1, .inl (Md_blocks o157).2)), ((ob0 17), .inl (cA 0, (Md_newBlocks o157).1, .inl (Md_newBlocks o157).2)), ((ob0 18), .inl (cA 0, (Md_places o157).1, .inl (Md_places o157).2)), ((ad161 0), .inl (cA 0, (Md_written o157).1, .inl (Md_written o157).2)), ((ad161 1), .inl (cA 0, (Md_other o157).1, .inl (Md_other o157).2))]) F ck_Md hin_Md 0 18 rfl (by decide) kw_652 rfl rfl rfl rfl (Nat.le_of_ble_eq_true rfl) rfl d_Md_sweep_354 ?_
  refine x_iload_n F d_Md_sweep_357 1 rfl rfl ?_
  refine x_aload_n F d_Md_sweep_358 0 rfl rfl ?_
  refine x_get F ck_Md hin_Md 0 10 rfl (by decide) kw_644 rfl rfl d_Md_sweep_359 ?_
  refine x_isub F d_Md_sweep_362 ?_
  replace hm := xm_p_some hm
  obtain ⟨eo, c_o, d_o⟩ := hm
  subst eo
  refine x_sub [0, 1, 2, 3, 4, 5, 6, 7, 8, 9, 10, 11, 12, 13, 14, 15, 16, 17, 18, 19, 20] (by decide) ?_ (xe_i E ad161 (by omega) (by omega) rfl (xz_i _) d_Md_sweep_363)
  rfl
