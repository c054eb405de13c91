/-! two nodes are alike: u stands for the class u / 2, seen from the side u % 2 -/
def cod (z : AS) (u : Nat) : Prop := al z (u / 2) ∧ a_ld z (u / 2) = u / 2
def LKS (z : AS) (nd : Nat → Prop) (x y : Nat) (S : Nat → Nat → Prop) : Prop :=
  eqv S ∧ S (2 * a_ld z x) (2 * a_ld z y + 1) ∧
  ∀ u v, cod z u → cod z v → S u v → ∀ b c, a_bd z (u / 2) b → a_bd z (v / 2) c → a_sh z b c ∧ (∀ (k : Nat) (q q2 : Int32 × Nat), (a_fl z b)[k]? = some q → (a_fl z c)[k]? = some q2 → S (2 * a_ld z q.2 + u % 2) (2 * a_ld z q2.2 + v % 2)) ∧ (a_kd z b = 0 ∨ a_kd z b = 4 → u ≠ v → u % 2 ≠ v % 2 ∧ (a_nd z nd (u / 2) ↔ a_nd z nd (v / 2)) ∧ ∀ w, cod z w → S u w → w = u ∨ w = v)
def spi_like (F : FS) (p v r : Int32) : Prop :=
  (∃ x y, a_is (f_z F) p x ∧ a_is (f_z F) v y ∧ (∃ S, LKS (f_z F) (f_nd F) x y S) ∧ r = 1) ∨
  ((¬ ∃ x y, a_is (f_z F) p x ∧ a_is (f_z F) v y ∧ ∃ S, LKS (f_z F) (f_nd F) x y S) ∧ r = 0)
theorem ok_like {F : FS} {p v r r2 : Int32} (h1 : spi_like F p v r) (h2 : spi_like F p v r2) : r = r2 := by
  rcases h1 with ⟨x, y, a1, a2, a3, e1⟩ | ⟨a, e1⟩ <;> rcases h2 with ⟨x', y', b1, b2, b3, e2⟩ | ⟨b, e2⟩
  · rw [e1, e2]
  · exact absurd ⟨x, y, a1, a2, a3⟩ b
  · exact absurd ⟨x', y', b1, b2, b3⟩ a
  · rw [e1, e2]
theorem a_sh_symm {z : AS} {i j : Nat} (h : a_sh z i j) : a_sh z j i := ⟨h.1.symm, h.2.1.symm, h.2.2.symm⟩
theorem a_sh_trans {z : AS} {i j k : Nat} (h1 : a_sh z i j) (h2 : a_sh z j k) : a_sh z i k := ⟨h1.1.trans h2.1, h1.2.1.trans h2.2.1, h1.2.2.trans h2.2.2⟩
theorem a_sh_len {z : AS} {i j : Nat} (h : a_sh z i j) : (a_fl z i).length = (a_fl z j).length := by
  have := congrArg List.length h.2.2
  rwa [List.length_map, List.length_map] at this
theorem a_sh_at {z : AS} {i j k : Nat} (h : a_sh z i j) {q : Int32 × Nat} (hq : (a_fl z i)[k]? = some q) : ∃ q2, (a_fl z j)[k]? = some q2 ∧ q2.1 = q.1 := by
  have hl := a_sh_len h
  have hk := (List.getElem?_eq_some_iff.mp hq).1
  have e : (a_fl z j)[k]? = some (a_fl z j)[k] := List.getElem?_eq_getElem (by omega)
  refine ⟨_, e, ?_⟩
  have := congrArg (fun l => l[k]?) h.2.2
  simp only [List.getElem?_map, hq, e, Option.map_some] at this
  exact (Option.some.inj this).symm
theorem cod_lt {z : AS} (hw : a_wf z) {u : Nat} (h : cod z u) : u < 2 * a_t z := by
  have := al_lt hw h.1
  omega
theorem cod_of {z : AS} (hw : a_wf z) {i s : Nat} (hi : al z i) (hs : s < 2) : cod z (2 * a_ld z i + s) := by
  have e : (2 * a_ld z i + s) / 2 = a_ld z i := by omega
  unfold cod
  rw [e]
  exact (hw.2.2.1 i hi).2
/-- a trial of likeness -/
def LQ (z : AS) (nd : Nat → Prop) (bd : Nat → Nat) (x y : Nat) (R : Nat → Nat) (gv : Nat → Bool) (P : List (Nat × Nat)) (k : Nat) : Prop :=
  (∀ S, LKS z nd x y S → (∀ i j, R i = R j → S i j) ∧ ∀ p ∈ P, S p.1 p.2) ∧
  (∀ i, R i ≤ i ∧ R (R i) = R i) ∧
  (∀ i, cod z i → cod z (R i)) ∧
  (∀ i, ¬ cod z i → R i = i) ∧
  (∀ u v, cod z u → cod z v → R u = R v → ∀ b c, a_bd z (u / 2) b → a_bd z (v / 2) c → a_sh z b c ∧ (∀ (m : Nat) (q q2 : Int32 × Nat), (a_fl z b)[m]? = some q → (a_fl z c)[m]? = some q2 → tS R P k (2 * a_ld z q.2 + u % 2) (2 * a_ld z q2.2 + v % 2)) ∧ (a_kd z b = 0 ∨ a_kd z b = 4 → u ≠ v → u % 2 ≠ v % 2 ∧ (a_nd z nd (u / 2) ↔ a_nd z nd (v / 2)) ∧ ∀ w, cod z w → R u = R w → w = u ∨ w = v)) ∧
  (∀ p ∈ P, cod z p.1 ∧ cod z p.2) ∧
  (tS R P k (2 * a_ld z x) (2 * a_ld z y + 1)) ∧
  (∀ u b, cod z u → a_bd z (u / 2) b → a_kd z b = 0 ∨ a_kd z b = 4 → (gv u = true ↔ ∃ w, cod z w ∧ w ≠ u ∧ R w = R u)) ∧
  (P.length + sumf (fun u => if pb (cod z u ∧ R u = u) then (a_fl z (bd (u / 2))).length else 0) (2 * a_t z) ≤ 1 + 2 * a_sum z)
theorem LQ.s1 {z : AS} {nd : Nat → Prop} {bd : Nat → Nat} {x y : Nat} {R : Nat → Nat} {gv : Nat → Bool} {P : List (Nat × Nat)} {k : Nat} (H : LQ z nd bd x y R gv P k) : (∀ S, LKS z nd x y S → (∀ i j, R i = R j → S i j) ∧ ∀ p ∈ P, S p.1 p.2) := H.1
theorem LQ.s2 {z : AS} {nd : Nat → Prop} {bd : Nat → Nat} {x y : Nat} {R : Nat → Nat} {gv : Nat → Bool} {P : List (Nat × Nat)} {k : Nat} (H : LQ z nd bd x y R gv P k) : (∀ i, R i ≤ i ∧ R (R i) = R i) := H.2.1
theorem LQ.s3 {z : AS} {nd : Nat → Prop} {bd : Nat → Nat} {x y : Nat} {R : Nat → Nat} {gv : Nat → Bool} {P : List (Nat × Nat)} {k : Nat} (H : LQ z nd bd x y R gv P k) : (∀ i, cod z i → cod z (R i)) := H.2.2.1
theorem LQ.s4 {z : AS} {nd : Nat → Prop} {bd : Nat → Nat} {x y : Nat} {R : Nat → Nat} {gv : Nat → Bool} {P : List (Nat × Nat)} {k : Nat} (H : LQ z nd bd x y R gv P k) : (∀ i, ¬ cod z i → R i = i) := H.2.2.2.1
theorem LQ.g {z : AS} {nd : Nat → Prop} {bd : Nat → Nat} {x y : Nat} {R : Nat → Nat} {gv : Nat → Bool} {P : List (Nat × Nat)} {k : Nat} (H : LQ z nd bd x y R gv P k) : (∀ u v, cod z u → cod z v → R u = R v → ∀ b c, a_bd z (u / 2) b → a_bd z (v / 2) c → a_sh z b c ∧ (∀ (m : Nat) (q q2 : Int32 × Nat), (a_fl z b)[m]? = some q → (a_fl z c)[m]? = some q2 → tS R P k (2 * a_ld z q.2 + u % 2) (2 * a_ld z q2.2 + v % 2)) ∧ (a_kd z b = 0 ∨ a_kd z b = 4 → u ≠ v → u % 2 ≠ v % 2 ∧ (a_nd z nd (u / 2) ↔ a_nd z nd (v / 2)) ∧ ∀ w, cod z w → R u = R w → w = u ∨ w = v)) := H.2.2.2.2.1
theorem LQ.p1 {z : AS} {nd : Nat → Prop} {bd : Nat → Nat} {x y : Nat} {R : Nat → Nat} {gv : Nat → Bool} {P : List (Nat × Nat)} {k : Nat} (H : LQ z nd bd x y R gv P k) : (∀ p ∈ P, cod z p.1 ∧ cod z p.2) := H.2.2.2.2.2.1
theorem LQ.p2 {z : AS} {nd : Nat → Prop} {bd : Nat → Nat} {x y : Nat} {R : Nat → Nat} {gv : Nat → Bool} {P : List (Nat × Nat)} {k : Nat} (H : LQ z nd bd x y R gv P k) : (tS R P k (2 * a_ld z x) (2 * a_ld z y + 1)) := H.2.2.2.2.2.2.1
theorem LQ.h {z : AS} {nd : Nat → Prop} {bd : Nat → Nat} {x y : Nat} {R : Nat → Nat} {gv : Nat → Bool} {P : List (Nat × Nat)} {k : Nat} (H : LQ z nd bd x y R gv P k) : (∀ u b, cod z u → a_bd z (u / 2) b → a_kd z b = 0 ∨ a_kd z b = 4 → (gv u = true ↔ ∃ w, cod z w ∧ w ≠ u ∧ R w = R u)) := H.2.2.2.2.2.2.2.1
theorem LQ.c {z : AS} {nd : Nat → Prop} {bd : Nat → Nat} {x y : Nat} {R : Nat → Nat} {gv : Nat → Bool} {P : List (Nat × Nat)} {k : Nat} (H : LQ z nd bd x y R gv P k) : (P.length + sumf (fun u => if pb (cod z u ∧ R u = u) then (a_fl z (bd (u / 2))).length else 0) (2 * a_t z) ≤ 1 + 2 * a_sum z) := H.2.2.2.2.2.2.2.2
theorem LQ_skip {z : AS} {nd : Nat → Prop} {bd : Nat → Nat} {x y : Nat} {R : Nat → Nat} {gv : Nat → Bool} {P : List (Nat × Nat)} {k : Nat} (T : LQ z nd bd x y R gv P k) {p : Nat × Nat} (hp : P[k]? = some p) (e : R p.1 = R p.2) : LQ z nd bd x y R gv P (k + 1) := by
  have up : ∀ u v, tS R P k u v → tS R P (k + 1) u v := fun u v h => by
    have := tS_up (N := []) hp (fun _ _ w => w) e h
    rwa [List.append_nil] at this
  refine ⟨T.s1, T.s2, T.s3, T.s4, fun u v hu hv h3 b c hb hc => ?_, T.p1, up _ _ T.p2, T.h, T.c⟩
  obtain ⟨g1, g2, g3⟩ := T.g u v hu hv h3 b c hb hc
  exact ⟨g1, fun m q q2 hq hq2 => up _ _ (g2 m q q2 hq hq2), g3⟩
theorem LQ_done {z : AS} {nd : Nat → Prop} {bd : Nat → Nat} {x y : Nat} {R : Nat → Nat} {gv : Nat → Bool} {P : List (Nat × Nat)} {k : Nat} (T : LQ z nd bd x y R gv P k) (hk : P.length ≤ k) : ∃ S, LKS z nd x y S := by
  have hS : eqv (fun i j => R i = R j) := ⟨fun _ => rfl, fun _ _ h => h.symm, fun _ _ _ h1 h2 => h1.trans h2⟩
  have fin : ∀ u v, tS R P k u v → R u = R v := fun u v h => h (fun i j => R i = R j) hS (fun _ _ h => h) (fun p hp => by rw [List.drop_eq_nil_of_le hk] at hp; exact absurd hp List.not_mem_nil)
  refine ⟨fun i j => R i = R j, hS, fin _ _ T.p2, fun u v hu hv huv b c hb hc => ?_⟩
  obtain ⟨g1, g2, g3⟩ := T.g u v hu hv huv b c hb hc
  exact ⟨g1, fun m q q2 hq hq2 => fin _ _ (g2 m q q2 hq hq2), g3⟩
theorem sumf_dbl (f : Nat → Nat) (t : Nat) : sumf (fun u => f (u / 2)) (2 * t) = 2 * sumf f t := by
  induction t with
  | zero => rfl
  | succ t ih =>
    rw [show 2 * (t + 1) = 2 * t + 1 + 1 by omega, sumf_s, sumf_s, sumf_s, ih]
    have e1 : (2 * t) / 2 = t := by omega
    have e2 : (2 * t + 1) / 2 = t := by omega
    show 2 * sumf f t + f (2 * t / 2) + f ((2 * t + 1) / 2) = _
    rw [e1, e2]
    omega
theorem LQ_0 {z : AS} (hw : a_wf z) {nd : Nat → Prop} {x y : Nat} (hx : al z x) (hy : al z y) {bd : Nat → Nat} (hb : ∀ r, al z r → a_ld z r = r → al z (bd r) ∧ a_ld z (bd r) = r ∧ (a_kd z (bd r) = 0 → ∀ j, al z j → a_ld z j = r → a_kd z j = 0)) : LQ z nd bd x y (fun i => i) (fun _ => false) [(2 * a_ld z x, 2 * a_ld z y + 1)] 0 := by
  refine ⟨fun S hS => ⟨fun i j e => ?_, fun p hp => ?_⟩, fun i => ⟨Nat.le_refl _, rfl⟩, fun i h => h, fun i _ => rfl, fun u v hu hv huv b c hbb hcc => ?_, fun p hp => ?_, fun S _ _ h => h _ List.mem_cons_self, fun u b hu hbb h04 => ?_, ?_⟩
  · have e' : i = j := e
    rw [e']; exact hS.1.1 j
  · rw [List.mem_singleton] at hp
    subst hp
    exact hS.2.1
  · have e : u = v := huv
    subst e
    obtain ⟨g1, g2, g3, g4, g5⟩ := a_bd_eq hw hbb hcc
    refine ⟨⟨g1, g2, g3⟩, fun m q q2 hq hq2 S hS h1 _ => ?_, fun _ w => absurd rfl w⟩
    obtain ⟨q3, e1, e2, e3⟩ := a_fl_at hw hbb hcc hq
    rw [hq2] at e1
    cases e1
    rw [e3]
    exact hS.1 _
  · rw [List.mem_singleton] at hp
    subst hp
    exact ⟨cod_of hw hx (by omega : 0 < 2), cod_of hw hy (by omega)⟩
  · exact ⟨fun h => absurd (show false = true from h) Bool.false_ne_true, fun ⟨w, w1, w2, w3⟩ => absurd w3 w2⟩
  · have h := sumf_inj (t := a_t z) (b := bd) (K := fun r => pb (al z r ∧ a_ld z r = r)) (a_t z) (fun j => (a_fl z j).length) (fun i hi _ => al_lt hw (hb i (pb_iff.mp hi).1 (pb_iff.mp hi).2).1) (fun i j hi hj _ _ e => by
      have e1 := (hb i (pb_iff.mp hi).1 (pb_iff.mp hi).2).2.1
      have e2 := (hb j (pb_iff.mp hj).1 (pb_iff.mp hj).2).2.1
      rw [e] at e1
      exact e1.symm.trans e2)
    have h' : sumf (fun r => if pb (al z r ∧ a_ld z r = r) then (a_fl z (bd r)).length else 0) (a_t z) ≤ a_sum z := h
    have h2 := sumf_dbl (fun r => if pb (al z r ∧ a_ld z r = r) then (a_fl z (bd r)).length else 0) (a_t z)
    have h3 : sumf (fun u => if pb (cod z u ∧ u = u) then (a_fl z (bd (u / 2))).length else 0) (2 * a_t z) = sumf (fun u => (fun r => if pb (al z r ∧ a_ld z r = r) then (a_fl z (bd r)).length else 0) (u / 2)) (2 * a_t z) := sumf_congr (fun u _ => by
      show (if pb (cod z u ∧ u = u) = true then _ else 0) = (if pb (al z (u / 2) ∧ a_ld z (u / 2) = u / 2) = true then _ else 0)
      by_cases w : al z (u / 2) ∧ a_ld z (u / 2) = u / 2
      · rw [pb_t w, pb_t (p := cod z u ∧ u = u) ⟨w, rfl⟩]
      · rw [pb_f w, pb_f (p := cod z u ∧ u = u) (fun q => w q.1)])
    have h4 := h3.trans h2
    show 1 + sumf (fun u => if pb (cod z u ∧ u = u) then (a_fl z (bd (u / 2))).length else 0) (2 * a_t z) ≤ 1 + 2 * a_sum z
    rw [h4]
    omega
theorem LQ_join {z : AS} (hw : a_wf z) {nd : Nat → Prop} {x y : Nat} {bd : Nat → Nat} (hbd : ∀ r, al z r → a_ld z r = r → al z (bd r) ∧ a_ld z (bd r) = r ∧ (a_kd z (bd r) = 0 → ∀ j, al z j → a_ld z j = r → a_kd z j = 0)) {R : Nat → Nat} {gv : Nat → Bool} {P : List (Nat × Nat)} {k : Nat} (T : LQ z nd bd x y R gv P k) {p : Nat × Nat} (hp : P[k]? = some p) {a b : Nat} (ea : R p.1 = a) (eb : R p.2 = b) (hab : a ≠ b) (hsh : a_sh z (bd (a / 2)) (bd (b / 2))) (hgv : a_kd z (bd (a / 2)) = 0 ∨ a_kd z (bd (a / 2)) = 4 → a % 2 ≠ b % 2 ∧ (a_nd z nd (a / 2) ↔ a_nd z nd (b / 2)) ∧ gv a = false ∧ gv b = false) {gv2 : Nat → Bool} (hg2 : ∀ i, gv2 i = true ↔ (gv i = true ∨ ((a_kd z (bd (a / 2)) = 0 ∨ a_kd z (bd (a / 2)) = 4) ∧ (i = a ∨ i = b)))) {N : List (Nat × Nat)} (hN : N = List.zipWith (fun q q2 => (2 * a_ld z q.2 + a % 2, 2 * a_ld z q2.2 + b % 2)) (a_fl z (bd (a / 2))) (a_fl z (bd (b / 2)))) : LQ z nd bd x y (jR R a b) gv2 (P ++ N) (k + 1) := by
  obtain ⟨pa1, pa2⟩ := T.p1 p (List.mem_of_getElem? hp)
  have raa : R a = a := by rw [← ea]; exact (T.s2 _).2
  have rbb : R b = b := by rw [← eb]; exact (T.s2 _).2
  have ca : cod z a := by rw [← ea]; exact T.s3 _ pa1
  have cb : cod z b := by rw [← eb]; exact T.s3 _ pa2
  have hla := cod_lt hw ca
  have hlb := cod_lt hw cb
  obtain ⟨A1, A2, A3⟩ := hbd (a / 2) ca.1 ca.2
  obtain ⟨B1, B2, B3⟩ := hbd (b / 2) cb.1 cb.2
  have bA : a_bd z (a / 2) (bd (a / 2)) := ⟨A1, by rw [A2, ca.2], by rw [ca.2]; exact A3⟩
  have bB : a_bd z (b / 2) (bd (b / 2)) := ⟨B1, by rw [B2, cb.2], by rw [cb.2]; exact B3⟩
  have hRR := fun i => (T.s2 i).2
  have jab : jR R a b p.1 = jR R a b p.2 := by
    unfold jR
    rw [ea, eb, if_pos (Or.inl rfl), if_pos (Or.inr rfl)]
  have up : ∀ u v, tS R P k u v → tS (jR R a b) (P ++ N) (k + 1) u v := fun u v h => tS_up (N := N) hp (fun i j w => jR_old w) jab h
  have hk := (List.getElem?_eq_some_iff.mp hp).1
  have minR : R (min a b) = min a b := by
    by_cases e : a ≤ b
    · rw [Nat.min_eq_left e]; exact raa
    · rw [Nat.min_eq_right (by omega)]; exact rbb
  have cmin : cod z (min a b) := by
    by_cases e : a ≤ b
    · rw [Nat.min_eq_left e]; exact ca
    · rw [Nat.min_eq_right (by omega)]; exact cb
  have hge : ∀ i, R i = a ∨ R i = b → min a b ≤ i := fun i hi => by
    have := (T.s2 i).1
    omega
  have memN : ∀ q, q ∈ N → ∃ (m : Nat) (qa qb : Int32 × Nat), (a_fl z (bd (a / 2)))[m]? = some qa ∧ (a_fl z (bd (b / 2)))[m]? = some qb ∧ q = (2 * a_ld z qa.2 + a % 2, 2 * a_ld z qb.2 + b % 2) := fun q hq => by
    rw [hN] at hq
    obtain ⟨m, hm⟩ := List.getElem?_of_mem hq
    rw [List.getElem?_zipWith] at hm
    cases ha : (a_fl z (bd (a / 2)))[m]? with
    | none => rw [ha] at hm; simp at hm
    | some qa =>
      cases hb : (a_fl z (bd (b / 2)))[m]? with
      | none => rw [ha, hb] at hm; simp at hm
      | some qb =>
        rw [ha, hb] at hm
        exact ⟨m, qa, qb, ha, hb, (Option.some.inj hm).symm⟩
  have inN : ∀ (m : Nat) (qa qb : Int32 × Nat), (a_fl z (bd (a / 2)))[m]? = some qa → (a_fl z (bd (b / 2)))[m]? = some qb → (2 * a_ld z qa.2 + a % 2, 2 * a_ld z qb.2 + b % 2) ∈ (P ++ N).drop (k + 1) := fun m qa qb h1 h2 => by
    rw [List.drop_append_of_le_length (by omega)]
    refine List.mem_append.mpr (Or.inr ?_)
    rw [hN]
    refine List.mem_of_getElem? (i := m) ?_
    rw [List.getElem?_zipWith, h1, h2]
  have Sab : ∀ S, LKS z nd x y S → S a b := fun S hS => by
    obtain ⟨h1, h2⟩ := T.s1 S hS
    have e1 := h1 p.1 a (by rw [ea, raa])
    have e2 := h1 p.2 b (by rw [eb, rbb])
    exact hS.1.2.2 _ _ _ (hS.1.2.1 _ _ e1) (hS.1.2.2 _ _ _ (h2 p (List.mem_of_getElem? hp)) e2)
  -- a variable or thing stands alone in a and in b
  have lone : a_kd z (bd (a / 2)) = 0 ∨ a_kd z (bd (a / 2)) = 4 → (∀ w, cod z w → R w = a → w = a) ∧ ∀ w, cod z w → R w = b → w = b := fun h04 => by
    obtain ⟨-, -, ga, gb⟩ := hgv h04
    refine ⟨fun w hw1 hw2 => Classical.byContradiction (fun q => ?_), fun w hw1 hw2 => Classical.byContradiction (fun q => ?_)⟩
    · rw [(T.h a _ ca bA h04).mpr ⟨w, hw1, q, hw2.trans raa.symm⟩] at ga
      exact absurd ga (by decide)
    · rw [(T.h b _ cb bB (by rw [← hsh.1]; exact h04)).mpr ⟨w, hw1, q, hw2.trans rbb.symm⟩] at gb
      exact absurd gb (by decide)
  refine ⟨fun S hS => ⟨fun i j hij => ?_, fun q hq => ?_⟩, fun i => ?_, fun i hi => ?_, fun i hi => ?_, fun u v hu hv huv b0 c0 hb0 hc0 => ?_, fun q hq => ?_, up _ _ T.p2, fun u b0 hu hb0 h04 => ?_, ?_⟩
  · obtain ⟨h1, h2⟩ := T.s1 S hS
    have hSab := Sab S hS
    rcases jR_cases raa rbb hRR hij with w | ⟨w1, w2⟩ | ⟨w1, w2⟩
    · exact h1 i j w
    · exact hS.1.2.2 _ _ _ (h1 i a (by rw [w1, raa])) (hS.1.2.2 _ _ _ hSab (h1 b j (by rw [w2, rbb])))
    · exact hS.1.2.2 _ _ _ (h1 i b (by rw [w1, rbb])) (hS.1.2.2 _ _ _ (hS.1.2.1 _ _ hSab) (h1 a j (by rw [w2, raa])))
  · rcases List.mem_append.mp hq with w | w
    · exact (T.s1 S hS).2 q w
    · obtain ⟨m, qa, qb, h1, h2, rfl⟩ := memN q w
      exact (hS.2.2 a b ca cb (Sab S hS) _ _ bA bB).2.1 m qa qb h1 h2
  · unfold jR
    by_cases e : R i = a ∨ R i = b
    · rw [if_pos e, minR, if_pos (by omega)]
      exact ⟨hge i e, rfl⟩
    · rw [if_neg e, hRR i, if_neg e]
      exact ⟨(T.s2 i).1, rfl⟩
  · unfold jR
    by_cases e : R i = a ∨ R i = b
    · rw [if_pos e]; exact cmin
    · rw [if_neg e]; exact T.s3 i hi
  · unfold jR
    rw [T.s4 i hi, if_neg (fun w => by rcases w with w | w; exact hi (w ▸ ca); exact hi (w ▸ cb))]
  · have cross : ∀ u v, cod z u → cod z v → ∀ b0 c0, a_bd z (u / 2) b0 → a_bd z (v / 2) c0 → R u = a → R v = b → a_sh z b0 c0 ∧ (∀ (m : Nat) (q q2 : Int32 × Nat), (a_fl z b0)[m]? = some q → (a_fl z c0)[m]? = some q2 → tS (jR R a b) (P ++ N) (k + 1) (2 * a_ld z q.2 + u % 2) (2 * a_ld z q2.2 + v % 2)) ∧ (a_kd z b0 = 0 ∨ a_kd z b0 = 4 → u % 2 ≠ v % 2 ∧ (a_nd z nd (u / 2) ↔ a_nd z nd (v / 2)) ∧ ∀ w, cod z w → (R w = a ∨ R w = b) → w = u ∨ w = v) := fun u v hu hv b0 c0 hb0 hc0 hua hvb => by
      obtain ⟨g1, g1', -⟩ := T.g u a hu ca (hua.trans raa.symm) b0 _ hb0 bA
      obtain ⟨g2, g2', -⟩ := T.g b v cb hv (rbb.trans hvb.symm) _ c0 bB hc0
      refine ⟨a_sh_trans g1 (a_sh_trans hsh g2), fun m q q2 hq hq2 => ?_, fun h04 => ?_⟩
      · obtain ⟨qa, ha, -⟩ := a_sh_at g1 hq
        obtain ⟨qb, hb, -⟩ := a_sh_at hsh ha
        have t1 := up _ _ (g1' m q qa hq ha)
        have t2 := up _ _ (g2' m qb q2 hb hq2)
        intro S hS h1 h2
        exact hS.2.2 _ _ _ (t1 S hS h1 h2) (hS.2.2 _ _ _ (h2 _ (inN m qa qb ha hb)) (t2 S hS h1 h2))
      · rw [g1.1] at h04
        obtain ⟨l1, l2⟩ := lone h04
        obtain ⟨k1, k2, -, -⟩ := hgv h04
        have e1 := l1 u hu hua
        have e2 := l2 v hv hvb
        rw [e1, e2]
        exact ⟨k1, k2, fun w hw1 hw2 => hw2.imp (l1 w hw1) (l2 w hw1)⟩
    rcases jR_cases raa rbb hRR huv with w | ⟨w1, w2⟩ | ⟨w1, w2⟩
    · obtain ⟨g1, g2, g3⟩ := T.g u v hu hv w b0 c0 hb0 hc0
      refine ⟨g1, fun m q q2 hq hq2 => up _ _ (g2 m q q2 hq hq2), fun h04 hne => ?_⟩
      obtain ⟨k1, k2, k3⟩ := g3 h04 hne
      refine ⟨k1, k2, fun w' hw1 hw2 => ?_⟩
      rcases jR_cases raa rbb hRR hw2 with q | ⟨q1, q2⟩ | ⟨q1, q2⟩
      · exact k3 w' hw1 q
      · exfalso
        have hk0 := (T.g u a hu ca (q1.trans raa.symm) b0 _ hb0 bA).1
        rw [hk0.1] at h04
        obtain ⟨l1, l2⟩ := lone h04
        exact hne ((l1 u hu q1).trans (l1 v hv (w.symm.trans q1)).symm)
      · exfalso
        have hk0 := (T.g u b hu cb (q1.trans rbb.symm) b0 _ hb0 bB).1
        rw [hk0.1, ← hsh.1] at h04
        obtain ⟨l1, l2⟩ := lone h04
        exact hne ((l2 u hu q1).trans (l2 v hv (w.symm.trans q1)).symm)
    · obtain ⟨g1, g2, g3⟩ := cross u v hu hv b0 c0 hb0 hc0 w1 w2
      refine ⟨g1, g2, fun h04 _ => ?_⟩
      obtain ⟨k1, k2, k3⟩ := g3 h04
      refine ⟨k1, k2, fun w' hw1 hw2 => k3 w' hw1 ?_⟩
      rcases jR_cases raa rbb hRR hw2 with q | ⟨q1, q2⟩ | ⟨q1, q2⟩
      · exact Or.inl (q.symm.trans w1)
      · exact Or.inr q2
      · exact Or.inl q2
    · obtain ⟨g1, g2, g3⟩ := cross v u hv hu c0 b0 hc0 hb0 w2 w1
      refine ⟨a_sh_symm g1, fun m q q2 hq hq2 S hS h1 h2 => hS.2.1 _ _ (g2 m q2 q hq2 hq S hS h1 h2), fun h04 _ => ?_⟩
      obtain ⟨k1, k2, k3⟩ := g3 (by rw [g1.1]; exact h04)
      refine ⟨fun q => k1 q.symm, k2.symm, fun w' hw1 hw2 => (k3 w' hw1 ?_).symm⟩
      rcases jR_cases raa rbb hRR hw2 with q | ⟨q1, q2⟩ | ⟨q1, q2⟩
      · exact Or.inr (q.symm.trans w1)
      · exact Or.inr q2
      · exact Or.inl q2
  · rcases List.mem_append.mp hq with w | w
    · exact T.p1 q w
    · obtain ⟨m, qa, qb, h1, h2, rfl⟩ := memN q w
      exact ⟨cod_of hw ((hw.2.2.2.2.1 _ A1).2.2 qa (List.mem_of_getElem? h1)) (by omega), cod_of hw ((hw.2.2.2.2.1 _ B1).2.2 qb (List.mem_of_getElem? h2)) (by omega)⟩
  · rw [hg2 u]
    have jj : jR R a b a = jR R a b b := by
      unfold jR
      rw [raa, rbb, if_pos (Or.inl rfl), if_pos (Or.inr rfl)]
    constructor
    · rintro (w | ⟨-, rfl | rfl⟩)
      · obtain ⟨w', w1, w2, w3⟩ := (T.h u b0 hu hb0 h04).mp w
        exact ⟨w', w1, w2, jR_old w3⟩
      · exact ⟨b, cb, fun q => hab q.symm, jj.symm⟩
      · exact ⟨a, ca, hab, jj⟩
    · rintro ⟨w, w1, w2, w3⟩
      rcases jR_cases raa rbb hRR w3 with q | ⟨q1, q2⟩ | ⟨q1, q2⟩
      · exact Or.inl ((T.h u b0 hu hb0 h04).mpr ⟨w, w1, w2, q⟩)
      · by_cases e : u = b
        · refine Or.inr ⟨?_, Or.inr e⟩
          have := (T.g u b hu cb (q2.trans rbb.symm) b0 _ hb0 bB).1
          rw [this.1, ← hsh.1] at h04
          exact h04
        · exact Or.inl ((T.h u b0 hu hb0 h04).mpr ⟨b, cb, fun q => e q.symm, rbb.trans q2.symm⟩)
      · by_cases e : u = a
        · refine Or.inr ⟨?_, Or.inl e⟩
          have := (T.g u a hu ca (q2.trans raa.symm) b0 _ hb0 bA).1
          rw [this.1] at h04
          exact h04
        · exact Or.inl ((T.h u b0 hu hb0 h04).mpr ⟨a, ca, fun q => e q.symm, raa.trans q2.symm⟩)
  · -- the pairs are few
    have hc0 := T.c
    rw [List.length_append]
    have two := sumf_two (t := 2 * a_t z) (a := a) (b := b) hab hla hlb (g := fun r => if pb (cod z r ∧ R r = r) then (a_fl z (bd (r / 2))).length else 0) (g' := fun r => if pb (cod z r ∧ jR R a b r = r) then (a_fl z (bd (r / 2))).length else 0) (fun r h1 h2 => by
      have e : (cod z r ∧ jR R a b r = r) ↔ (cod z r ∧ R r = r) := by
        unfold jR
        by_cases w : R r = a ∨ R r = b
        · rw [if_pos w]
          exact ⟨fun q => by omega, fun q => by omega⟩
        · rw [if_neg w]
      show (if pb (cod z r ∧ R r = r) = true then (a_fl z (bd (r / 2))).length else 0) = (if pb (cod z r ∧ jR R a b r = r) = true then (a_fl z (bd (r / 2))).length else 0)
      by_cases w : cod z r ∧ R r = r
      · rw [pb_t w, pb_t (e.mpr w)]
      · rw [pb_f w, pb_f (fun q => w (e.mp q))])
    have ga : (if pb (cod z a ∧ R a = a) = true then (a_fl z (bd (a / 2))).length else 0) = (a_fl z (bd (a / 2))).length := by rw [pb_t ⟨ca, raa⟩]; rfl
    have gb : (if pb (cod z b ∧ R b = b) = true then (a_fl z (bd (b / 2))).length else 0) = (a_fl z (bd (b / 2))).length := by rw [pb_t ⟨cb, rbb⟩]; rfl
    have ja : jR R a b a = min a b := by unfold jR; rw [raa, if_pos (Or.inl rfl)]
    have jb : jR R a b b = min a b := by unfold jR; rw [rbb, if_pos (Or.inr rfl)]
    have hlen := a_sh_len hsh
    have hNl : N.length = (a_fl z (bd (a / 2))).length := by rw [hN, List.length_zipWith, hlen, Nat.min_self]
    have gg : (if pb (cod z a ∧ jR R a b a = a) = true then (a_fl z (bd (a / 2))).length else 0) + (if pb (cod z b ∧ jR R a b b = b) = true then (a_fl z (bd (b / 2))).length else 0) = (a_fl z (bd (a / 2))).length := by
      rw [ja, jb]
      by_cases e : a ≤ b
      · have e1 : min a b = a := Nat.min_eq_left e
        rw [e1, pb_t (p := cod z a ∧ a = a) ⟨ca, rfl⟩, pb_f (p := cod z b ∧ a = b) (fun q => hab q.2)]
        simp
      · have e1 : min a b = b := Nat.min_eq_right (by omega)
        rw [e1, pb_f (p := cod z a ∧ b = a) (fun q => hab q.2.symm), pb_t (p := cod z b ∧ b = b) ⟨cb, rfl⟩]
        simp
        exact hlen.symm
    have two' : sumf (fun r => if pb (cod z r ∧ R r = r) then (a_fl z (bd (r / 2))).length else 0) (2 * a_t z) + (if pb (cod z a ∧ jR R a b a = a) = true then (a_fl z (bd (a / 2))).length else 0) + (if pb (cod z b ∧ jR R a b b = b) = true then (a_fl z (bd (b / 2))).length else 0) = sumf (fun r => if pb (cod z r ∧ jR R a b r = r) then (a_fl z (bd (r / 2))).length else 0) (2 * a_t z) + (if pb (cod z a ∧ R a = a) = true then (a_fl z (bd (a / 2))).length else 0) + (if pb (cod z b ∧ R b = b) = true then (a_fl z (bd (b / 2))).length else 0) := two
    rw [ga, gb] at two'
    show P.length + N.length + sumf (fun r => if pb (cod z r ∧ jR R a b r = r) then (a_fl z (bd (r / 2))).length else 0) (2 * a_t z) ≤ 1 + 2 * a_sum z
    omega
