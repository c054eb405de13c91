/-! a trial: R the roots, P the pairs, k of them done -/
def tS (R : Nat → Nat) (P : List (Nat × Nat)) (k u v : Nat) : Prop := ∀ S, eqv S → (∀ i j, R i = R j → S i j) → (∀ p ∈ P.drop k, S p.1 p.2) → S u v
def TQ (z : AS) (x y : Nat) (R bod : Nat → Nat) (hit : Nat → Bool) (P : List (Nat × Nat)) (k : Nat) : Prop :=
  (∀ i, e_eq z x y i (R i)) ∧
  (∀ i, R i ≤ i ∧ R (R i) = R i) ∧
  (∀ i, al z i → R (a_ld z i) = R i) ∧
  (∀ i, ¬ al z i → R i = i) ∧
  (∀ r, al z r → R r = r → al z (bod r) ∧ R (bod r) = r ∧ (a_kd z (bod r) = 0 → ∀ j, al z j → R j = r → a_kd z j = 0)) ∧
  (∀ i, i < a_t z → bod i < a_t z) ∧
  (∀ i j, al z i → al z j → a_kd z i ≠ 0 → a_kd z j ≠ 0 → R i = R j → a_go z i j ∧ ∀ (m : Nat) (q q2 : Int32 × Nat), (a_fl z i)[m]? = some q → (a_fl z j)[m]? = some q2 → tS R P k q.2 q2.2) ∧
  (∀ p ∈ P, al z p.1 ∧ al z p.2 ∧ e_eq z x y p.1 p.2) ∧
  (tS R P k x y) ∧
  (∀ n, hit n = true ↔ (al z n ∧ a_ld z n = n ∧ a_var z n ∧ ∃ j, al z j ∧ a_ld z j ≠ n ∧ R j = R n)) ∧
  (P.length + sumf (fun r => if pb (al z r ∧ R r = r) then (a_fl z (bod r)).length else 0) (a_t z) ≤ 1 + a_sum z)
theorem TQ.s1 {z : AS} {x y : Nat} {R bod : Nat → Nat} {hit : Nat → Bool} {P : List (Nat × Nat)} {k : Nat} (H : TQ z x y R bod hit P k) : ∀ i, e_eq z x y i (R i) := H.1
theorem TQ.s2 {z : AS} {x y : Nat} {R bod : Nat → Nat} {hit : Nat → Bool} {P : List (Nat × Nat)} {k : Nat} (H : TQ z x y R bod hit P k) : ∀ i, R i ≤ i ∧ R (R i) = R i := H.2.1
theorem TQ.s3 {z : AS} {x y : Nat} {R bod : Nat → Nat} {hit : Nat → Bool} {P : List (Nat × Nat)} {k : Nat} (H : TQ z x y R bod hit P k) : ∀ i, al z i → R (a_ld z i) = R i := H.2.2.1
theorem TQ.s4 {z : AS} {x y : Nat} {R bod : Nat → Nat} {hit : Nat → Bool} {P : List (Nat × Nat)} {k : Nat} (H : TQ z x y R bod hit P k) : ∀ i, ¬ al z i → R i = i := H.2.2.2.1
theorem TQ.b1 {z : AS} {x y : Nat} {R bod : Nat → Nat} {hit : Nat → Bool} {P : List (Nat × Nat)} {k : Nat} (H : TQ z x y R bod hit P k) : ∀ r, al z r → R r = r → al z (bod r) ∧ R (bod r) = r ∧ (a_kd z (bod r) = 0 → ∀ j, al z j → R j = r → a_kd z j = 0) := H.2.2.2.2.1
theorem TQ.b2 {z : AS} {x y : Nat} {R bod : Nat → Nat} {hit : Nat → Bool} {P : List (Nat × Nat)} {k : Nat} (H : TQ z x y R bod hit P k) : ∀ i, i < a_t z → bod i < a_t z := H.2.2.2.2.2.1
theorem TQ.g {z : AS} {x y : Nat} {R bod : Nat → Nat} {hit : Nat → Bool} {P : List (Nat × Nat)} {k : Nat} (H : TQ z x y R bod hit P k) : ∀ i j, al z i → al z j → a_kd z i ≠ 0 → a_kd z j ≠ 0 → R i = R j → a_go z i j ∧ ∀ (m : Nat) (q q2 : Int32 × Nat), (a_fl z i)[m]? = some q → (a_fl z j)[m]? = some q2 → tS R P k q.2 q2.2 := H.2.2.2.2.2.2.1
theorem TQ.p1 {z : AS} {x y : Nat} {R bod : Nat → Nat} {hit : Nat → Bool} {P : List (Nat × Nat)} {k : Nat} (H : TQ z x y R bod hit P k) : ∀ p ∈ P, al z p.1 ∧ al z p.2 ∧ e_eq z x y p.1 p.2 := H.2.2.2.2.2.2.2.1
theorem TQ.p2 {z : AS} {x y : Nat} {R bod : Nat → Nat} {hit : Nat → Bool} {P : List (Nat × Nat)} {k : Nat} (H : TQ z x y R bod hit P k) : tS R P k x y := H.2.2.2.2.2.2.2.2.1
theorem TQ.h {z : AS} {x y : Nat} {R bod : Nat → Nat} {hit : Nat → Bool} {P : List (Nat × Nat)} {k : Nat} (H : TQ z x y R bod hit P k) : ∀ n, hit n = true ↔ (al z n ∧ a_ld z n = n ∧ a_var z n ∧ ∃ j, al z j ∧ a_ld z j ≠ n ∧ R j = R n) := H.2.2.2.2.2.2.2.2.2.1
theorem TQ.c {z : AS} {x y : Nat} {R bod : Nat → Nat} {hit : Nat → Bool} {P : List (Nat × Nat)} {k : Nat} (H : TQ z x y R bod hit P k) : P.length + sumf (fun r => if pb (al z r ∧ R r = r) then (a_fl z (bod r)).length else 0) (a_t z) ≤ 1 + a_sum z := H.2.2.2.2.2.2.2.2.2.2
theorem drop_mem {P N : List (Nat × Nat)} {k : Nat} {p0 p : Nat × Nat} (h : P[k]? = some p0) (hp : p ∈ P.drop k) : p = p0 ∨ p ∈ (P ++ N).drop (k + 1) := by
  have hk := (List.getElem?_eq_some_iff.mp h).1
  rw [List.drop_eq_getElem_cons hk] at hp
  rcases List.mem_cons.mp hp with w | w
  · left
    rw [w]
    exact (List.getElem?_eq_some_iff.mp h).2
  · right
    rw [List.drop_append_of_le_length (by omega)]
    exact List.mem_append.mpr (Or.inl w)
/-- what held by the pairs of before holds by the roots and pairs of now -/
theorem tS_up {R R2 : Nat → Nat} {P N : List (Nat × Nat)} {k u v : Nat} {p0 : Nat × Nat} (h : P[k]? = some p0) (hR : ∀ i j, R i = R j → R2 i = R2 j) (h0 : R2 p0.1 = R2 p0.2) (ht : tS R P k u v) : tS R2 (P ++ N) (k + 1) u v := by
  intro S hS h1 h2
  refine ht S hS (fun i j hij => h1 i j (hR i j hij)) (fun p hp => ?_)
  rcases drop_mem (N := N) h hp with rfl | w
  · exact h1 _ _ h0
  · exact h2 p w
theorem TQ_skip {z : AS} {x y : Nat} {R bod : Nat → Nat} {hit : Nat → Bool} {P : List (Nat × Nat)} {k : Nat} (T : TQ z x y R bod hit P k) {p : Nat × Nat} (hp : P[k]? = some p) (e : R p.1 = R p.2) : TQ z x y R bod hit P (k + 1) := by
  have up : ∀ u v, tS R P k u v → tS R P (k + 1) u v := fun u v h => by
    have := tS_up (N := []) hp (fun _ _ w => w) e h
    rwa [List.append_nil] at this
  refine ⟨T.s1, T.s2, T.s3, T.s4, T.b1, T.b2, fun i j hi hj h1 h2 h3 => ?_, T.p1, up _ _ T.p2, T.h, T.c⟩
  obtain ⟨g1, g2⟩ := T.g i j hi hj h1 h2 h3
  exact ⟨g1, fun m q q2 hq hq2 => up _ _ (g2 m q q2 hq hq2)⟩
theorem TQ_alR {z : AS} (hw : a_wf z) {x y : Nat} (hx : al z x) (hy : al z y) {R bod : Nat → Nat} {hit : Nat → Bool} {P : List (Nat × Nat)} {k : Nat} (T : TQ z x y R bod hit P k) {i : Nat} (hi : al z i) : al z (R i) := by
  rcases e_al hw hx hy (T.s1 i) with w | w
  · rw [← w]; exact hi
  · exact w.2
theorem TQ_join {z : AS} (hw : a_wf z) {x y : Nat} (hx : al z x) (hy : al z y) {R bod : Nat → Nat} {hit : Nat → Bool} {P : List (Nat × Nat)} {k : Nat} (T : TQ z x y R bod hit P k) {p : Nat × Nat} (hp : P[k]? = some p) {a b : Nat} (ea : R p.1 = a) (eb : R p.2 = b) (hab : a ≠ b) {N : List (Nat × Nat)} (hN : ∀ q ∈ N, al z q.1 ∧ al z q.2 ∧ e_eq z x y q.1 q.2) (hgo : a_kd z (bod a) ≠ 0 → a_kd z (bod b) ≠ 0 → a_go z (bod a) (bod b) ∧ ∀ (m : Nat) (q q2 : Int32 × Nat), (a_fl z (bod a))[m]? = some q → (a_fl z (bod b))[m]? = some q2 → (q.2, q2.2) ∈ N) {c : Nat} (hc : c = if a_kd z (bod a) = 0 then bod b else bod a) (hlen : N.length + (a_fl z c).length ≤ (a_fl z (bod a)).length + (a_fl z (bod b)).length) {hit2 : Nat → Bool} (hh : ∀ i, hit2 i = true ↔ (hit i = true ∨ (i = a ∧ a_kd z (bod a) = 0) ∨ (i = b ∧ a_kd z (bod b) = 0))) : TQ z x y (jR R a b) (fun i => if i = min a b then c else bod i) hit2 (P ++ N) (k + 1) := by
  have E := (e_self (z := z) (x := x) (y := y))
  obtain ⟨pa1, pa2, pE⟩ := T.p1 p (List.mem_of_getElem? hp)
  have raa : R a = a := by rw [← ea]; exact (T.s2 _).2
  have rbb : R b = b := by rw [← eb]; exact (T.s2 _).2
  have ala : al z a := by rw [← ea]; exact TQ_alR hw hx hy T pa1
  have alb : al z b := by rw [← eb]; exact TQ_alR hw hx hy T pa2
  have hlt := al_lt hw ala
  have hlb := al_lt hw alb
  obtain ⟨A1, A2, A3⟩ := T.b1 a ala raa
  obtain ⟨B1, B2, B3⟩ := T.b1 b alb rbb
  have hRR := fun i => (T.s2 i).2
  have jab : jR R a b p.1 = jR R a b p.2 := by
    unfold jR
    rw [ea, eb, if_pos (Or.inl rfl), if_pos (Or.inr rfl)]
  have up : ∀ u v, tS R P k u v → tS (jR R a b) (P ++ N) (k + 1) u v := fun u v h => tS_up (N := N) hp (fun i j w => jR_old w) jab h
  have eab : e_eq z x y a b := by
    have h1 := T.s1 p.1
    have h2 := T.s1 p.2
    rw [ea] at h1
    rw [eb] at h2
    exact E.1.2.2 _ _ _ (E.1.2.1 _ _ h1) (E.1.2.2 _ _ _ pE h2)
  have emin : ∀ i, R i = a ∨ R i = b → e_eq z x y i (min a b) := fun i hi => by
    have h1 := T.s1 i
    by_cases e : a ≤ b
    · rw [Nat.min_eq_left e]
      rcases hi with w | w
      · rw [w] at h1; exact h1
      · rw [w] at h1; exact E.1.2.2 _ _ _ h1 (E.1.2.1 _ _ eab)
    · rw [Nat.min_eq_right (by omega)]
      rcases hi with w | w
      · rw [w] at h1; exact E.1.2.2 _ _ _ h1 eab
      · rw [w] at h1; exact h1
  have minR : R (min a b) = min a b := by
    by_cases e : a ≤ b
    · rw [Nat.min_eq_left e]; exact raa
    · rw [Nat.min_eq_right (by omega)]; exact rbb
  have hge : ∀ i, R i = a ∨ R i = b → min a b ≤ i := fun i hi => by
    have := (T.s2 i).1
    omega
  have cR : R c = a ∨ R c = b := by
    rw [hc]
    by_cases e : a_kd z (bod a) = 0
    · rw [if_pos e]; exact Or.inr B2
    · rw [if_neg e]; exact Or.inl A2
  have cal : al z c := by
    rw [hc]
    by_cases e : a_kd z (bod a) = 0
    · rw [if_pos e]; exact B1
    · rw [if_neg e]; exact A1
  refine ⟨fun i => ?_, fun i => ?_, fun i hi => jR_old (T.s3 i hi), fun i hi => ?_, fun r hr hrr => ?_, fun i hi => ?_, fun i j hi hj hi0 hj0 hij => ?_, fun q hq => ?_, up _ _ T.p2, fun n => ?_, ?_⟩
  · unfold jR
    by_cases e : R i = a ∨ R i = b
    · rw [if_pos e]; exact emin i e
    · rw [if_neg e]; exact T.s1 i
  · unfold jR
    by_cases e : R i = a ∨ R i = b
    · rw [if_pos e, minR, if_pos (by omega)]
      exact ⟨hge i e, rfl⟩
    · rw [if_neg e, hRR i, if_neg e]
      exact ⟨(T.s2 i).1, rfl⟩
  · unfold jR
    rw [T.s4 i hi, if_neg (fun w => by rcases w with w | w; exact hi (w ▸ ala); exact hi (w ▸ alb))]
  · -- bodies
    obtain ⟨r1, r2⟩ := jR_root raa rbb hrr
    show al z (if r = min a b then c else bod r) ∧ jR R a b (if r = min a b then c else bod r) = r ∧ (a_kd z (if r = min a b then c else bod r) = 0 → ∀ j, al z j → jR R a b j = r → a_kd z j = 0)
    by_cases e : r = min a b
    · rw [if_pos e]
      refine ⟨cal, ?_, fun h0 j hj hjr => ?_⟩
      · unfold jR
        rw [if_pos cR, e]
      · have hj2 : R j = a ∨ R j = b := by
          unfold jR at hjr
          by_cases w : R j = a ∨ R j = b
          · exact w
          · rw [if_neg w] at hjr
            omega
        rw [hc] at h0
        by_cases w : a_kd z (bod a) = 0
        · rw [if_pos w] at h0
          rcases hj2 with w2 | w2
          · exact A3 w j hj w2
          · exact B3 h0 j hj w2
        · rw [if_neg w] at h0
          exact absurd h0 w
    · rw [if_neg e]
      have hne : r ≠ a ∧ r ≠ b := ⟨fun w => e (r2 (Or.inl w)), fun w => e (r2 (Or.inr w))⟩
      obtain ⟨C1, C2, C3⟩ := T.b1 r hr r1
      refine ⟨C1, ?_, fun h0 j hj hjr => C3 h0 j hj ?_⟩
      · unfold jR
        rw [C2, if_neg (by omega)]
      · unfold jR at hjr
        by_cases w : R j = a ∨ R j = b
        · rw [if_pos w] at hjr; exact absurd hjr.symm e
        · rw [if_neg w] at hjr; exact hjr
  · show (if i = min a b then c else bod i) < a_t z
    by_cases e : i = min a b
    · rw [if_pos e]; exact al_lt hw cal
    · rw [if_neg e]; exact T.b2 i hi
  · -- two that are determined and the same
    have cross : ∀ i j, al z i → al z j → a_kd z i ≠ 0 → a_kd z j ≠ 0 → R i = a → R j = b → a_go z i j ∧ ∀ (m : Nat) (q q2 : Int32 × Nat), (a_fl z i)[m]? = some q → (a_fl z j)[m]? = some q2 → tS (jR R a b) (P ++ N) (k + 1) q.2 q2.2 := fun i j hi hj hi0 hj0 hia hjb => by
      have hA0 : a_kd z (bod a) ≠ 0 := fun w => hi0 (A3 w i hi hia)
      have hB0 : a_kd z (bod b) ≠ 0 := fun w => hj0 (B3 w j hj hjb)
      obtain ⟨g0, gN⟩ := hgo hA0 hB0
      obtain ⟨g1, g1'⟩ := T.g i (bod a) hi A1 hi0 hA0 (hia.trans A2.symm)
      obtain ⟨g2, g2'⟩ := T.g (bod b) j B1 hj hB0 hj0 (B2.trans hjb.symm)
      refine ⟨a_go_trans g1 (a_go_trans g0 g2), fun m q q2 hq hq2 => ?_⟩
      obtain ⟨qa, ha, -⟩ := a_go_at g1 hq
      obtain ⟨qb, hb, -⟩ := a_go_at g0 ha
      have t1 := up _ _ (g1' m q qa hq ha)
      have t2 := up _ _ (g2' m qb q2 hb hq2)
      have hn := gN m qa qb ha hb
      intro S hS h1 h2
      have hk := (List.getElem?_eq_some_iff.mp hp).1
      have hin : (qa.2, qb.2) ∈ (P ++ N).drop (k + 1) := by
        rw [List.drop_append_of_le_length (by omega)]
        exact List.mem_append.mpr (Or.inr hn)
      exact hS.2.2 _ _ _ (t1 S hS h1 h2) (hS.2.2 _ _ _ (h2 _ hin) (t2 S hS h1 h2))
    rcases jR_cases raa rbb hRR hij with w | ⟨w1, w2⟩ | ⟨w1, w2⟩
    · obtain ⟨g1, g2⟩ := T.g i j hi hj hi0 hj0 w
      exact ⟨g1, fun m q q2 hq hq2 => up _ _ (g2 m q q2 hq hq2)⟩
    · exact cross i j hi hj hi0 hj0 w1 w2
    · obtain ⟨g1, g2⟩ := cross j i hj hi hj0 hi0 w2 w1
      refine ⟨a_go_symm g1, fun m q q2 hq hq2 S hS h1 h2 => ?_⟩
      exact hS.2.1 _ _ (g2 m q2 q hq2 hq S hS h1 h2)
  · rcases List.mem_append.mp hq with w | w
    · exact T.p1 q w
    · exact hN q w
  · -- what is hit
    rw [hh n]
    have ldr : ∀ r, al z r → R r = r → a_ld z r = r := fun r hr hrr => by
      have h1 := T.s3 r hr
      have h2 := (T.s2 (a_ld z r)).1
      have h3 := (hw.2.2.1 r hr).1
      omega
    have sub : ∀ r, al z r → R r = r → a_kd z (bod r) = 0 → a_var z r := fun r hr hrr h0 j hj hjl => (T.b1 r hr hrr).2.2 h0 j hj (by rw [← T.s3 j hj, hjl, hrr])
    constructor
    · rintro (w | ⟨rfl, w⟩ | ⟨rfl, w⟩)
      · obtain ⟨n1, n2, n3, j, j1, j2, j3⟩ := (T.h n).mp w
        exact ⟨n1, n2, n3, j, j1, j2, jR_old j3⟩
      · refine ⟨ala, ldr _ ala raa, sub _ ala raa w, b, alb, ?_, ?_⟩
        · rw [ldr b alb rbb]; exact fun q => hab q.symm
        · unfold jR; rw [raa, rbb, if_pos (Or.inr rfl), if_pos (Or.inl rfl)]
      · refine ⟨alb, ldr _ alb rbb, sub _ alb rbb w, a, ala, ?_, ?_⟩
        · rw [ldr a ala raa]; exact hab
        · unfold jR; rw [raa, rbb, if_pos (Or.inl rfl), if_pos (Or.inr rfl)]
    · rintro ⟨n1, n2, n3, j, j1, j2, j3⟩
      by_cases hold : ∃ j, al z j ∧ a_ld z j ≠ n ∧ R j = R n
      · exact Or.inl ((T.h n).mpr ⟨n1, n2, n3, hold⟩)
      · -- n stands alone: it is its own root
        have alone : ∀ i, al z i → R i = R n → a_ld z i = n := fun i hi hin => Classical.byContradiction (fun w => hold ⟨i, hi, w, hin⟩)
        have hRn : R n = n := by
          have h1 := alone (R n) (TQ_alR hw hx hy T n1) (hRR n)
          have h2 := (hw.2.2.1 (R n) (TQ_alR hw hx hy T n1)).1
          have h3 := (T.s2 n).1
          omega
        have kd0 : ∀ i, al z i → R i = n → a_kd z i = 0 := fun i hi hin => n3 i hi (alone i hi (hin.trans hRn.symm))
        rcases jR_cases raa rbb hRR j3 with w | ⟨w1, w2⟩ | ⟨w1, w2⟩
        · exact absurd (alone j j1 w) j2
        · have e : n = b := hRn.symm.trans w2
          subst e
          exact Or.inr (Or.inr ⟨rfl, kd0 _ B1 B2⟩)
        · have e : n = a := hRn.symm.trans w2
          subst e
          exact Or.inr (Or.inl ⟨rfl, kd0 _ A1 A2⟩)
  · -- the pairs are few
    have hc0 := T.c
    rw [List.length_append]
    have two := sumf_two (t := a_t z) (a := a) (b := b) hab hlt hlb (g := fun r => if pb (al z r ∧ R r = r) then (a_fl z (bod r)).length else 0) (g' := fun r => if pb (al z r ∧ jR R a b r = r) then (a_fl z (if r = min a b then c else bod r)).length else 0) (fun r h1 h2 => by
      have e : (al z r ∧ jR R a b r = r) ↔ (al z r ∧ R r = r) := by
        unfold jR
        by_cases w : R r = a ∨ R r = b
        · rw [if_pos w]
          exact ⟨fun q => by omega, fun q => by omega⟩
        · rw [if_neg w]
      show (if pb (al z r ∧ R r = r) = true then (a_fl z (bod r)).length else 0) = (if pb (al z r ∧ jR R a b r = r) = true then (a_fl z (if r = min a b then c else bod r)).length else 0)
      rw [if_neg (show ¬ r = min a b by omega)]
      by_cases w : al z r ∧ R r = r
      · rw [pb_t w, pb_t (e.mpr w)]
      · rw [pb_f w, pb_f (fun q => w (e.mp q))])
    have ga : (if pb (al z a ∧ R a = a) = true then (a_fl z (bod a)).length else 0) = (a_fl z (bod a)).length := by rw [pb_t ⟨ala, raa⟩]; rfl
    have gb : (if pb (al z b ∧ R b = b) = true then (a_fl z (bod b)).length else 0) = (a_fl z (bod b)).length := by rw [pb_t ⟨alb, rbb⟩]; rfl
    have ja : jR R a b a = min a b := by unfold jR; rw [raa, if_pos (Or.inl rfl)]
    have jb : jR R a b b = min a b := by unfold jR; rw [rbb, if_pos (Or.inr rfl)]
    have gg : (if pb (al z a ∧ jR R a b a = a) = true then (a_fl z (if a = min a b then c else bod a)).length else 0) + (if pb (al z b ∧ jR R a b b = b) = true then (a_fl z (if b = min a b then c else bod b)).length else 0) = (a_fl z c).length := by
      rw [ja, jb]
      by_cases e : a ≤ b
      · have e1 : min a b = a := Nat.min_eq_left e
        rw [e1, pb_t ⟨ala, rfl⟩, pb_f (fun q => hab q.2), if_pos rfl, if_pos rfl]
        simp
      · have e1 : min a b = b := Nat.min_eq_right (by omega)
        rw [e1, pb_f (p := al z a ∧ b = a) (fun q => hab q.2.symm), pb_t (p := al z b ∧ b = b) ⟨alb, rfl⟩, if_pos rfl, if_pos rfl]
        simp
    have two' : sumf (fun r => if pb (al z r ∧ R r = r) then (a_fl z (bod r)).length else 0) (a_t z) + (if pb (al z a ∧ jR R a b a = a) = true then (a_fl z (if a = min a b then c else bod a)).length else 0) + (if pb (al z b ∧ jR R a b b = b) = true then (a_fl z (if b = min a b then c else bod b)).length else 0) = sumf (fun r => if pb (al z r ∧ jR R a b r = r) then (a_fl z (if r = min a b then c else bod r)).length else 0) (a_t z) + (if pb (al z a ∧ R a = a) = true then (a_fl z (bod a)).length else 0) + (if pb (al z b ∧ R b = b) = true then (a_fl z (bod b)).length else 0) := two
    rw [ga, gb] at two'
    show P.length + N.length + sumf (fun r => if pb (al z r ∧ jR R a b r = r) then (a_fl z (if r = min a b then c else bod r)).length else 0) (a_t z) ≤ 1 + a_sum z
    omega
/-- at the end there are no pairs left -/
theorem TQ_done {z : AS} {x y : Nat} {R bod : Nat → Nat} {hit : Nat → Bool} {P : List (Nat × Nat)} {k : Nat} (T : TQ z x y R bod hit P k) (hk : P.length ≤ k) : e_min z x y R ∧ ¬ e_bad z x y ∧ ∀ n, hit n = true ↔ a_hit z x y n := by
  have hS : eqv (fun i j => R i = R j) := ⟨fun _ => rfl, fun _ _ h => h.symm, fun _ _ _ h1 h2 => h1.trans h2⟩
  have fin : ∀ u v, tS R P k u v → R u = R v := fun u v h => h (fun i j => R i = R j) hS (fun _ _ h => h) (fun p hp => by rw [List.drop_eq_nil_of_le hk] at hp; exact absurd hp List.not_mem_nil)
  have hm : e_min z x y R := e_found T.s1 (fun i => (T.s2 i).1) T.s3 (fin _ _ T.p2) (fun i j m q q2 hi hj h3 hij hgo hq hq2 => by
    have h0 : a_kd z i ≠ 0 := fun w => by rw [w] at h3; exact absurd h3 (by decide)
    exact fin _ _ ((T.g i j hi hj h0 (fun w => h0 (hgo.1.trans w)) hij).2 m q q2 hq hq2))
  refine ⟨hm, fun ⟨i, j, hi, hj, hi0, hj0, hE, hg⟩ => hg (T.g i j hi hj hi0 hj0 ((e_min_iff hm).mp hE)).1, fun n => ?_⟩
  rw [T.h n]
  unfold a_hit
  constructor
  · rintro ⟨n1, n2, n3, j, j1, j2, j3⟩
    exact ⟨n1, n2, n3, j, j1, j2, (e_min_iff hm).mpr j3⟩
  · rintro ⟨n1, n2, n3, j, j1, j2, j3⟩
    exact ⟨n1, n2, n3, j, j1, j2, (e_min_iff hm).mp j3⟩
/-- how it begins -/
theorem TQ_0 {z : AS} (hw : a_wf z) {x y : Nat} (hx : al z x) (hy : al z y) {bd : Nat → Nat} (hb : ∀ r, al z r → a_ld z r = r → al z (bd r) ∧ a_ld z (bd r) = r ∧ (a_kd z (bd r) = 0 → ∀ j, al z j → a_ld z j = r → a_kd z j = 0)) (hb2 : ∀ i, i < a_t z → bd i < a_t z) : TQ z x y (a_ld z) bd (fun _ => false) [(x, y)] 0 := by
  have E := (e_self (z := z) (x := x) (y := y))
  refine ⟨fun i => ?_, fun i => ?_, fun i hi => (hw.2.2.1 i hi).2.2, fun i hi => (hw.2.2.2.1 i hi).1, hb, hb2, fun i j hi hj hi0 hj0 hij => ?_, fun p hp => ?_, fun S _ _ h => h (x, y) List.mem_cons_self, fun n => ?_, ?_⟩
  · by_cases hi : al z i
    · exact E.2.1 i hi
    · rw [(hw.2.2.2.1 i hi).1]; exact E.1.1 i
  · by_cases hi : al z i
    · exact ⟨(hw.2.2.1 i hi).1, (hw.2.2.1 i hi).2.2⟩
    · rw [(hw.2.2.2.1 i hi).1]; exact ⟨Nat.le_refl _, (hw.2.2.2.1 i hi).1⟩
  · obtain ⟨g1, g2⟩ := hw.2.2.2.2.2.2.1 i j hi hj hi0 hj0 hij
    refine ⟨g1, fun m q q2 hq hq2 S hS h1 _ => h1 _ _ ?_⟩
    have := congrArg (fun l => l[m]?) g2
    simp only [List.getElem?_map, hq, hq2, Option.map_some] at this
    exact Option.some.inj this
  · rw [List.mem_singleton] at hp
    subst hp
    exact ⟨hx, hy, E.2.2.1⟩
  · refine ⟨fun h => absurd (show false = true from h) Bool.false_ne_true, fun ⟨n1, n2, n3, j, j1, j2, j3⟩ => ?_⟩
    rw [n2] at j3
    exact absurd j3 j2
  · have h := sumf_inj (t := a_t z) (b := bd) (K := fun r => pb (al z r ∧ a_ld z r = r)) (a_t z) (fun j => (a_fl z j).length) (fun i hi _ => al_lt hw (hb i (pb_iff.mp hi).1 (pb_iff.mp hi).2).1) (fun i j hi hj _ _ e => by
      have e1 := (hb i (pb_iff.mp hi).1 (pb_iff.mp hi).2).2.1
      have e2 := (hb j (pb_iff.mp hj).1 (pb_iff.mp hj).2).2.1
      rw [e] at e1
      exact e1.symm.trans e2)
    show 1 + sumf (fun r => if pb (al z r ∧ a_ld z r = r) then (a_fl z (bd r)).length else 0) (a_t z) ≤ 1 + a_sum z
    have h' : sumf (fun r => if pb (al z r ∧ a_ld z r = r) then (a_fl z (bd r)).length else 0) (a_t z) ≤ a_sum z := h
    omega
