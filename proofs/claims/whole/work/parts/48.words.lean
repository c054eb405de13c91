/-! the words of what is reached: the blocks met, each once, in the order in which they are met -/
def b_add (M : List Nat) (c : Nat) : List Nat := if c ∈ M then M else M ++ [c]
def b_flds : List Nat → List (Int32 × Nat) → List Nat × List Int32
  | M, [] => (M, [])
  | M, p :: fs => ((b_flds (b_add M p.2) fs).1, p.1 :: nI ((b_add M p.2).idxOf p.2) :: (b_flds (b_add M p.2) fs).2)
def b_run (D : Nat → Int32 × Int32 × List (Int32 × Nat)) : Nat → Nat → List Nat → List Nat × List Int32
  | 0, _, M => (M, [])
  | n + 1, k, M => match M[k]? with
    | none => (M, [])
    | some c => ((b_run D n (k + 1) (b_flds M (D c).2.2).1).1, (D c).1 :: (D c).2.1 :: nI (D c).2.2.length :: ((b_flds M (D c).2.2).2 ++ (b_run D n (k + 1) (b_flds M (D c).2.2).1).2))
def b_item (D : Nat → Int32 × Int32 × List (Int32 × Nat)) (M : List Nat) (c : Nat) : Int32 × Int32 × List (Int32 × Int32) := ((D c).1, (D c).2.1, (D c).2.2.map (fun p => (p.1, nI (M.idxOf p.2))))
def b_enc (i : Int32 × Int32 × List (Int32 × Int32)) : List Int32 := i.1 :: i.2.1 :: nI i.2.2.length :: i.2.2.flatMap (fun p => [p.1, p.2])
theorem b_run_0 (D : Nat → Int32 × Int32 × List (Int32 × Nat)) (k : Nat) (M : List Nat) : b_run D 0 k M = (M, []) := rfl
theorem b_run_n {D : Nat → Int32 × Int32 × List (Int32 × Nat)} {n k : Nat} {M : List Nat} (h : M[k]? = none) : b_run D (n + 1) k M = (M, []) := by
  show (match M[k]? with | none => _ | some c => _) = _
  rw [h]
theorem b_run_s {D : Nat → Int32 × Int32 × List (Int32 × Nat)} {n k c : Nat} {M : List Nat} (h : M[k]? = some c) : b_run D (n + 1) k M = ((b_run D n (k + 1) (b_flds M (D c).2.2).1).1, (D c).1 :: (D c).2.1 :: nI (D c).2.2.length :: ((b_flds M (D c).2.2).2 ++ (b_run D n (k + 1) (b_flds M (D c).2.2).1).2)) := by
  show (match M[k]? with | none => _ | some c => _) = _
  rw [h]
theorem b_add_pre (M : List Nat) (c : Nat) : ∃ L, b_add M c = M ++ L := by
  unfold b_add
  by_cases h : c ∈ M
  · rw [if_pos h]; exact ⟨[], (List.append_nil _).symm⟩
  · rw [if_neg h]; exact ⟨_, rfl⟩
theorem b_add_mem (M : List Nat) (c : Nat) : c ∈ b_add M c := by
  unfold b_add
  by_cases h : c ∈ M
  · rw [if_pos h]; exact h
  · rw [if_neg h]; exact List.mem_append.mpr (Or.inr List.mem_cons_self)
theorem b_add_of {M : List Nat} {c i : Nat} (h : i ∈ b_add M c) : i ∈ M ∨ i = c := by
  unfold b_add at h
  by_cases w : c ∈ M
  · rw [if_pos w] at h; exact Or.inl h
  · rw [if_neg w] at h
    rcases List.mem_append.mp h with q | q
    · exact Or.inl q
    · exact Or.inr (List.mem_singleton.mp q)
theorem b_add_nd {M : List Nat} (h : M.Nodup) (c : Nat) : (b_add M c).Nodup := by
  unfold b_add
  by_cases w : c ∈ M
  · rw [if_pos w]; exact h
  · rw [if_neg w]
    refine List.nodup_append.mpr ⟨h, by simp, fun a ha b hb => ?_⟩
    rw [List.mem_singleton] at hb
    subst hb
    exact fun e => w (e ▸ ha)
theorem idx_app {M L : List Nat} {c : Nat} (h : c ∈ M) : (M ++ L).idxOf c = M.idxOf c := by
  rw [List.idxOf_append, if_pos h]
theorem b_flds_s (M : List Nat) (p : Int32 × Nat) (fs : List (Int32 × Nat)) : b_flds M (p :: fs) = ((b_flds (b_add M p.2) fs).1, p.1 :: nI ((b_add M p.2).idxOf p.2) :: (b_flds (b_add M p.2) fs).2) := rfl
theorem b_flds_ok : ∀ (fs : List (Int32 × Nat)) (M : List Nat), (∃ L, (b_flds M fs).1 = M ++ L) ∧ (∀ p ∈ fs, p.2 ∈ (b_flds M fs).1) ∧ (∀ i ∈ (b_flds M fs).1, i ∈ M ∨ ∃ p ∈ fs, i = p.2) ∧ (M.Nodup → (b_flds M fs).1.Nodup) ∧ ∀ L, (b_flds M fs).2 = fs.flatMap (fun p => [p.1, nI (((b_flds M fs).1 ++ L).idxOf p.2)]) := by
  intro fs
  induction fs with
  | nil => intro M; exact ⟨⟨[], (List.append_nil _).symm⟩, fun p hp => absurd hp List.not_mem_nil, fun i hi => Or.inl hi, fun h => h, fun L => rfl⟩
  | cons p fs ih =>
    intro M
    obtain ⟨⟨L1, h1⟩, h2, h3, h4, h5⟩ := ih (b_add M p.2)
    obtain ⟨L0, h0⟩ := b_add_pre M p.2
    rw [b_flds_s]
    have hp : p.2 ∈ (b_flds (b_add M p.2) fs).1 := by
      rw [h1]
      exact List.mem_append.mpr (Or.inl (b_add_mem M p.2))
    refine ⟨⟨L0 ++ L1, by rw [h1, h0, List.append_assoc]⟩, fun q hq => ?_, fun i hi => ?_, fun hn => h4 (b_add_nd hn _), fun L => ?_⟩
    · rcases List.mem_cons.mp hq with rfl | w
      · exact hp
      · exact h2 q w
    · rcases h3 i hi with w | ⟨q, w, e⟩
      · rcases b_add_of w with w | w
        · exact Or.inl w
        · exact Or.inr ⟨p, List.mem_cons_self, w⟩
      · exact Or.inr ⟨q, List.mem_cons_of_mem _ w, e⟩
    · show p.1 :: nI ((b_add M p.2).idxOf p.2) :: (b_flds (b_add M p.2) fs).2 = _
      rw [List.flatMap_cons, idx_app (L := L) hp]
      show _ = p.1 :: nI ((b_flds (b_add M p.2) fs).1.idxOf p.2) :: _
      have e : (b_flds (b_add M p.2) fs).1.idxOf p.2 = (b_add M p.2).idxOf p.2 := by
        rw [h1]; exact idx_app (b_add_mem M p.2)
      rw [e]
      exact congrArg (fun l => p.1 :: nI ((b_add M p.2).idxOf p.2) :: l) (h5 L)
/-- the words are the items of the blocks met, by the places of the end -/
theorem b_run_ok {D : Nat → Int32 × Int32 × List (Int32 × Nat)} {Q : Nat → Prop} {N : Nat} (hQ : ∀ c, Q c → c < N ∧ ∀ p ∈ (D c).2.2, Q p.2) : ∀ (n k : Nat) (M : List Nat), N < n + k → k ≤ M.length → M.Nodup → (∀ c ∈ M, Q c) → (∃ L, (b_run D n k M).1 = M ++ L) ∧ (b_run D n k M).1.Nodup ∧ (∀ c ∈ (b_run D n k M).1, Q c) ∧ (∀ c ∈ (b_run D n k M).1.drop k, ∀ p ∈ (D c).2.2, p.2 ∈ (b_run D n k M).1) ∧ (b_run D n k M).2 = ((b_run D n k M).1.drop k).flatMap (fun c => b_enc (b_item D (b_run D n k M).1 c)) := by
  intro n
  induction n with
  | zero =>
    intro k M h1 h2 h3 h4
    have := nodup_len h3 (fun r hr => (hQ r (h4 r hr)).1)
    omega
  | succ n ih =>
    intro k M h1 h2 h3 h4
    cases hc : M[k]? with
    | none =>
      have hl := List.getElem?_eq_none_iff.mp hc
      rw [b_run_n hc]
      have hd : M.drop k = [] := List.drop_eq_nil_of_le hl
      refine ⟨⟨[], (List.append_nil _).symm⟩, h3, h4, fun c hc => ?_, ?_⟩
      · rw [hd] at hc; exact absurd hc List.not_mem_nil
      · show [] = (M.drop k).flatMap _
        rw [hd]; rfl
    | some c =>
      have hk := (List.getElem?_eq_some_iff.mp hc).1
      have hcM := List.mem_of_getElem? hc
      rw [b_run_s hc]
      obtain ⟨⟨L1, g1⟩, g2, g3, g4, g5⟩ := b_flds_ok (D c).2.2 M
      obtain ⟨⟨L2, k1⟩, k2, k3, k4, k5⟩ := ih (k + 1) (b_flds M (D c).2.2).1 (by omega) (by rw [g1, List.length_append]; omega) (g4 h3) (fun i hi => by
        rcases g3 i hi with w | ⟨p, w, e⟩
        · exact h4 i w
        · rw [e]; exact (hQ c (h4 c hcM)).2 p w)
      generalize b_run D n (k + 1) (b_flds M (D c).2.2).1 = run at k1 k2 k3 k4 k5 ⊢
      have hck : run.1[k]? = some c := by
        rw [k1, g1, List.append_assoc, List.getElem?_append_left hk]
        exact hc
      have hkl := (List.getElem?_eq_some_iff.mp hck).1
      have hdrop : run.1.drop k = c :: run.1.drop (k + 1) := by
        rw [List.drop_eq_getElem_cons hkl, (List.getElem?_eq_some_iff.mp hck).2]
      refine ⟨⟨L1 ++ L2, by show run.1 = _; rw [k1, g1, List.append_assoc]⟩, k2, k3, fun i hi => ?_, ?_⟩
      · have hi' : i ∈ run.1.drop k := hi
        rw [hdrop] at hi'
        rcases List.mem_cons.mp hi' with rfl | w
        · intro p hp
          show p.2 ∈ run.1
          rw [k1]
          exact List.mem_append.mpr (Or.inl (g2 p hp))
        · exact k4 i w
      · show _ = (run.1.drop k).flatMap (fun c => b_enc (b_item D run.1 c))
        rw [hdrop, List.flatMap_cons]
        have e := g5 L2
        rw [← k1] at e
        have e2 : b_enc (b_item D run.1 c) = (D c).1 :: (D c).2.1 :: nI (D c).2.2.length :: (b_flds M (D c).2.2).2 := by
          unfold b_enc b_item
          show (D c).1 :: (D c).2.1 :: nI ((D c).2.2.map _).length :: ((D c).2.2.map _).flatMap _ = _
          rw [List.length_map, e, List.flatMap_map]
        rw [e2, k5]
        rfl
theorem pairs_inj : ∀ (l l2 : List (Int32 × Int32)) (r r2 : List Int32), l.length = l2.length → l.flatMap (fun p => [p.1, p.2]) ++ r = l2.flatMap (fun p => [p.1, p.2]) ++ r2 → l = l2 ∧ r = r2 := by
  intro l
  induction l with
  | nil =>
    intro l2 r r2 h1 h2
    cases l2 with
    | nil => exact ⟨rfl, h2⟩
    | cons p l2 => exact absurd h1 (by simp)
  | cons p l ih =>
    intro l2 r r2 h1 h2
    cases l2 with
    | nil => exact absurd h1 (by simp)
    | cons q l2 =>
      rw [List.flatMap_cons, List.flatMap_cons] at h2
      have h3 : p.1 :: p.2 :: (l.flatMap (fun p => [p.1, p.2]) ++ r) = q.1 :: q.2 :: (l2.flatMap (fun p => [p.1, p.2]) ++ r2) := h2
      rw [List.cons.injEq, List.cons.injEq] at h3
      obtain ⟨e1, e2, e3⟩ := h3
      obtain ⟨k1, k2⟩ := ih l2 r r2 (by simpa using h1) e3
      exact ⟨by rw [k1, Prod.ext e1 e2], k2⟩
theorem enc_inj : ∀ (l l2 : List (Int32 × Int32 × List (Int32 × Int32))), (∀ i ∈ l, i.2.2.length < 2 ^ 31) → (∀ i ∈ l2, i.2.2.length < 2 ^ 31) → l.flatMap b_enc = l2.flatMap b_enc → l = l2 := by
  intro l
  induction l with
  | nil =>
    intro l2 h1 h2 h
    cases l2 with
    | nil => rfl
    | cons j l2 =>
      rw [List.flatMap_cons] at h
      exact absurd h (by unfold b_enc; simp)
  | cons i l ih =>
    intro l2 h1 h2 h
    cases l2 with
    | nil =>
      rw [List.flatMap_cons] at h
      exact absurd h (by unfold b_enc; simp)
    | cons j l2 =>
      rw [List.flatMap_cons, List.flatMap_cons] at h
      have h3 : i.1 :: i.2.1 :: nI i.2.2.length :: (i.2.2.flatMap (fun p => [p.1, p.2]) ++ l.flatMap b_enc) = j.1 :: j.2.1 :: nI j.2.2.length :: (j.2.2.flatMap (fun p => [p.1, p.2]) ++ l2.flatMap b_enc) := h
      rw [List.cons.injEq, List.cons.injEq, List.cons.injEq] at h3
      obtain ⟨e1, e2, e3, e4⟩ := h3
      have e5 := (nI_eq (h1 i List.mem_cons_self) (h2 j List.mem_cons_self)).mp e3
      obtain ⟨k1, k2⟩ := pairs_inj _ _ _ _ e5 e4
      rw [ih l2 (fun i hi => h1 i (List.mem_cons_of_mem _ hi)) (fun i hi => h2 i (List.mem_cons_of_mem _ hi)) k2]
      rw [Prod.ext e1 (Prod.ext e2 k1)]
/-- blocks renamed -/
theorem idx_map {φ : Nat → Nat} {Q : Nat → Prop} (hφ : ∀ c d, Q c → Q d → φ c = φ d → c = d) : ∀ (M : List Nat) (c : Nat), (∀ i ∈ M, Q i) → Q c → (M.map φ).idxOf (φ c) = M.idxOf c ∧ (φ c ∈ M.map φ ↔ c ∈ M) := by
  intro M
  induction M with
  | nil => intro c _ _; exact ⟨rfl, by simp⟩
  | cons a M ih =>
    intro c h1 h2
    obtain ⟨k1, k2⟩ := ih c (fun i hi => h1 i (List.mem_cons_of_mem _ hi)) h2
    rw [List.map_cons, List.idxOf_cons, List.idxOf_cons, k1]
    by_cases e : a = c
    · subst e
      simp
    · have e2 : φ a ≠ φ c := fun w => e (hφ _ _ (h1 a List.mem_cons_self) h2 w)
      have e3 : (a == c) = false := by simp [e]
      have e4 : (φ a == φ c) = false := by simp [e2]
      rw [e3, e4]
      refine ⟨rfl, ?_⟩
      rw [List.mem_cons, List.mem_cons, k2]
      exact ⟨fun w => w.elim (fun w => absurd w.symm e2) Or.inr, fun w => w.elim (fun w => absurd w.symm e) Or.inr⟩
theorem b_add_map {φ : Nat → Nat} {Q : Nat → Prop} (hφ : ∀ c d, Q c → Q d → φ c = φ d → c = d) {M : List Nat} {c : Nat} (h1 : ∀ i ∈ M, Q i) (h2 : Q c) : b_add (M.map φ) (φ c) = (b_add M c).map φ := by
  unfold b_add
  have h := (idx_map hφ M c h1 h2).2
  by_cases w : c ∈ M
  · rw [if_pos w, if_pos (h.mpr w)]
  · rw [if_neg w, if_neg (fun q => w (h.mp q)), List.map_append]
    rfl
theorem b_flds_map {φ : Nat → Nat} {Q : Nat → Prop} (hφ : ∀ c d, Q c → Q d → φ c = φ d → c = d) : ∀ (fs : List (Int32 × Nat)) (M : List Nat), (∀ i ∈ M, Q i) → (∀ p ∈ fs, Q p.2) → b_flds (M.map φ) (fs.map (fun p => (p.1, φ p.2))) = ((b_flds M fs).1.map φ, (b_flds M fs).2) := by
  intro fs
  induction fs with
  | nil => intro M _ _; rfl
  | cons p fs ih =>
    intro M h1 h2
    have hp := h2 p List.mem_cons_self
    have hM : ∀ i ∈ b_add M p.2, Q i := fun i hi => by
      rcases b_add_of hi with w | w
      · exact h1 i w
      · rw [w]; exact hp
    rw [List.map_cons, b_flds_s, b_flds_s]
    show ((b_flds (b_add (M.map φ) (φ p.2)) _).1, p.1 :: nI ((b_add (M.map φ) (φ p.2)).idxOf (φ p.2)) :: (b_flds (b_add (M.map φ) (φ p.2)) _).2) = _
    rw [b_add_map hφ h1 hp, ih _ hM (fun q hq => h2 q (List.mem_cons_of_mem _ hq)), (idx_map hφ _ p.2 hM hp).1]
theorem b_run_map {φ : Nat → Nat} {Q : Nat → Prop} {D D2 : Nat → Int32 × Int32 × List (Int32 × Nat)} (hφ : ∀ c d, Q c → Q d → φ c = φ d → c = d) (hD : ∀ c, Q c → (∀ p ∈ (D c).2.2, Q p.2) ∧ D2 (φ c) = ((D c).1, (D c).2.1, (D c).2.2.map (fun p => (p.1, φ p.2)))) : ∀ (n k : Nat) (M : List Nat), (∀ i ∈ M, Q i) → b_run D2 n k (M.map φ) = ((b_run D n k M).1.map φ, (b_run D n k M).2) := by
  intro n
  induction n with
  | zero => intro k M _; rfl
  | succ n ih =>
    intro k M h1
    cases hc : M[k]? with
    | none =>
      have hc2 : (M.map φ)[k]? = none := by rw [List.getElem?_map, hc]; rfl
      rw [b_run_n hc, b_run_n hc2]
    | some c =>
      have hc2 : (M.map φ)[k]? = some (φ c) := by rw [List.getElem?_map, hc]; rfl
      obtain ⟨d1, d2⟩ := hD c (h1 c (List.mem_of_getElem? hc))
      obtain ⟨g1, g2, g3, g4, g5⟩ := b_flds_ok (D c).2.2 M
      rw [b_run_s hc, b_run_s hc2, d2]
      show ((b_run D2 n (k + 1) (b_flds (M.map φ) ((D c).2.2.map _)).1).1, (D c).1 :: (D c).2.1 :: nI ((D c).2.2.map _).length :: ((b_flds (M.map φ) ((D c).2.2.map _)).2 ++ (b_run D2 n (k + 1) (b_flds (M.map φ) ((D c).2.2.map _)).1).2)) = _
      rw [b_flds_map hφ _ _ h1 d1, List.length_map]
      show ((b_run D2 n (k + 1) ((b_flds M (D c).2.2).1.map φ)).1, (D c).1 :: (D c).2.1 :: nI (D c).2.2.length :: ((b_flds M (D c).2.2).2 ++ (b_run D2 n (k + 1) ((b_flds M (D c).2.2).1.map φ)).2)) = _
      rw [ih (k + 1) (b_flds M (D c).2.2).1 (fun i hi => by
        rcases g3 i hi with w | ⟨p, w, e⟩
        · exact h1 i w
        · rw [e]; exact d1 p w)]
/-- many words, no more than the fields allow -/
theorem flat_sum {α : Type} (w : Nat → List α) {N : Nat} : ∀ M : List Nat, M.Nodup → (∀ c ∈ M, c < N) → (M.flatMap w).length = sumf (fun c => if pb (c ∈ M) then (w c).length else 0) N := by
  intro M
  induction M with
  | nil =>
    intro _ _
    show 0 = _
    have : ∀ t, sumf (fun c => if pb (c ∈ ([] : List Nat)) then (w c).length else 0) t = 0 := fun t => by
      induction t with
      | zero => rfl
      | succ t ih =>
        rw [sumf_s, ih]
        show 0 + (if pb (t ∈ ([] : List Nat)) = true then (w t).length else 0) = 0
        rw [pb_f List.not_mem_nil]
        rfl
    rw [this]
  | cons a M ih =>
    intro hn hl
    have hn2 := List.nodup_cons.mp hn
    rw [List.flatMap_cons, List.length_append, ih hn2.2 (fun c hc => hl c (List.mem_cons_of_mem _ hc))]
    have := sumf_set (f := fun c => if pb (c ∈ M) then (w c).length else 0) (g := fun c => if pb (c ∈ a :: M) then (w c).length else 0) (t := N) (x := a) (a := (w a).length) (hl a List.mem_cons_self) (by
      show (if pb (a ∈ M) = true then (w a).length else 0) = 0
      rw [pb_f hn2.1]; rfl) (by
      show (if pb (a ∈ a :: M) = true then (w a).length else 0) = (w a).length
      rw [pb_t List.mem_cons_self]; rfl) (fun i hi => by
      show (if pb (i ∈ M) = true then (w i).length else 0) = (if pb (i ∈ a :: M) = true then (w i).length else 0)
      by_cases e : i ∈ M
      · rw [pb_t e, pb_t (List.mem_cons_of_mem _ e)]
      · rw [pb_f e, pb_f (fun q => (List.mem_cons.mp q).elim hi e)])
    omega
