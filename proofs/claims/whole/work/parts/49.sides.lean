/-! blocks: the coarsest cut of what is reached -/
theorem idx_at {c : Nat} : ∀ {M : List Nat}, c ∈ M → M[M.idxOf c]? = some c := by
  intro M
  induction M with
  | nil => intro h; exact absurd h List.not_mem_nil
  | cons a M ih =>
    intro h
    rw [List.idxOf_cons]
    by_cases e : a = c
    · subst e; simp
    · have e3 : (a == c) = false := by simp [e]
      rw [e3]
      rcases List.mem_cons.mp h with w | w
      · exact absurd w.symm e
      · simp only [cond_false, List.getElem?_cons_succ]
        exact ih w
def stb (z : AS) (R : List Nat) (T : Nat → Nat → Prop) : Prop := ∀ r s, r ∈ R → s ∈ R → T r s → r ≠ s → ∀ b c, a_bd z r b → a_bd z s c → a_kd z b ≠ 0 ∧ a_kd z b ≠ 4 ∧ a_sh z b c ∧ ∀ (k : Nat) (q q2 : Int32 × Nat), (a_fl z b)[k]? = some q → (a_fl z c)[k]? = some q2 → T (a_ld z q.2) (a_ld z q2.2)
def CUT (z : AS) (R : List Nat) (B : Nat → Nat) : Prop :=
  (∀ r ∈ R, B r < R.length) ∧ stb z R (fun r s => B r = B s) ∧ ∀ T, eqv T → stb z R T → ∀ r s, r ∈ R → s ∈ R → T r s → B r = B s
def SD (z : AS) (x : Nat) (R : List Nat) : Prop :=
  (∀ r ∈ R, al z r ∧ a_ld z r = r ∧ a_rch z x r) ∧ a_ld z x ∈ R ∧ (∀ r b, r ∈ R → a_bd z r b → ∀ q ∈ a_fl z b, a_ld z q.2 ∈ R) ∧ R.Nodup ∧ R.length ≤ a_t z
noncomputable def b_dat (z : AS) (nd : Nat → Prop) (B : Nat → Nat) (r b : Nat) : Int32 × Int32 × List (Int32 × Nat) := (a_kd z b, if a_kd z b = 0 then (if pb (a_nd z nd r) then 1 else 0) else a_vl z b, (a_fl z b).map (fun q => (q.1, B (a_ld z q.2))))
noncomputable def b_rep (R : List Nat) (B : Nat → Nat) (c : Nat) : Nat := Classical.epsilon (fun r => r ∈ R ∧ B r = c)
noncomputable def DT (z : AS) (nd : Nat → Prop) (R : List Nat) (B : Nat → Nat) (c : Nat) : Int32 × Int32 × List (Int32 × Nat) := b_dat z nd B (b_rep R B c) (a_body z (b_rep R B c))
theorem b_rep_spec {R : List Nat} {B : Nat → Nat} {r : Nat} (h : r ∈ R) : b_rep R B (B r) ∈ R ∧ B (b_rep R B (B r)) = B r := Classical.epsilon_spec (p := fun s => s ∈ R ∧ B s = B r) ⟨r, h, rfl⟩
theorem map_sh {z : AS} {B B2 : Nat → Nat} {b c : Nat} (h : a_sh z b c) (hp : ∀ (k : Nat) (q q2 : Int32 × Nat), (a_fl z b)[k]? = some q → (a_fl z c)[k]? = some q2 → B (a_ld z q.2) = B2 (a_ld z q2.2)) : (a_fl z b).map (fun q => (q.1, B (a_ld z q.2))) = (a_fl z c).map (fun q => (q.1, B2 (a_ld z q.2))) := by
  apply List.ext_getElem?
  intro k
  rw [List.getElem?_map, List.getElem?_map]
  cases e : (a_fl z b)[k]? with
  | none =>
    have hl := a_sh_len h
    have : (a_fl z c)[k]? = none := by
      rw [List.getElem?_eq_none_iff] at e ⊢
      omega
    rw [this]
    rfl
  | some q =>
    obtain ⟨q2, g1, g2⟩ := a_sh_at h e
    rw [g1]
    show some (q.1, B (a_ld z q.2)) = some (q2.1, B2 (a_ld z q2.2))
    rw [hp k q q2 e g1, g2]
theorem bd_same {z : AS} (hw : a_wf z) {r b c : Nat} (h1 : a_bd z r b) (h2 : a_bd z r c) : a_sh z b c ∧ ∀ (k : Nat) (q q2 : Int32 × Nat), (a_fl z b)[k]? = some q → (a_fl z c)[k]? = some q2 → a_ld z q.2 = a_ld z q2.2 := by
  obtain ⟨g1, g2, g3, -, -⟩ := a_bd_eq hw h1 h2
  refine ⟨⟨g1, g2, g3⟩, fun k q q2 hq hq2 => ?_⟩
  obtain ⟨q3, e1, -, e3⟩ := a_fl_at hw h1 h2 hq
  rw [hq2] at e1
  cases e1
  exact e3.symm
theorem b_dat_eq {z : AS} {nd : Nat → Prop} {B : Nat → Nat} {r s b c : Nat} (h : a_sh z b c) (hn : a_kd z b = 0 → (a_nd z nd r ↔ a_nd z nd s)) (hp : ∀ (k : Nat) (q q2 : Int32 × Nat), (a_fl z b)[k]? = some q → (a_fl z c)[k]? = some q2 → B (a_ld z q.2) = B (a_ld z q2.2)) : b_dat z nd B r b = b_dat z nd B s c := by
  unfold b_dat
  rw [map_sh h hp, ← h.1, ← h.2.1]
  by_cases e : a_kd z b = 0
  · rw [if_pos e, if_pos e]
    have : pb (a_nd z nd r) = pb (a_nd z nd s) := by rw [propext (hn e)]
    rw [this]
  · rw [if_neg e, if_neg e]
theorem DT_eq {z : AS} (hw : a_wf z) {nd : Nat → Prop} {x : Nat} {R : List Nat} {B : Nat → Nat} (hS : SD z x R) (hC : CUT z R B) {r b : Nat} (hr : r ∈ R) (hb : a_bd z r b) : DT z nd R B (B r) = b_dat z nd B r b := by
  obtain ⟨h1, h2⟩ := b_rep_spec (B := B) hr
  unfold DT
  generalize b_rep R B (B r) = s at h1 h2
  have hs := a_body_spec (hS.1 s h1).1
  by_cases e : s = r
  · subst e
    obtain ⟨g1, g2⟩ := bd_same hw hs hb
    exact b_dat_eq g1 (fun _ => Iff.rfl) (fun k q q2 hq hq2 => by rw [g2 k q q2 hq hq2])
  · obtain ⟨g1, g2, g3, g4⟩ := hC.2.1 s r h1 hr h2 e _ b hs hb
    exact b_dat_eq g3 (fun w => absurd w g1) g4
/-- what is met -/
def b_in (R : List Nat) (B : Nat → Nat) (c : Nat) : Prop := ∃ r ∈ R, B r = c
theorem DT_in {z : AS} (hw : a_wf z) {nd : Nat → Prop} {x : Nat} {R : List Nat} {B : Nat → Nat} (hS : SD z x R) (hC : CUT z R B) : ∀ c, b_in R B c → c < R.length ∧ ∀ p ∈ (DT z nd R B c).2.2, b_in R B p.2 := by
  rintro c ⟨r, hr, rfl⟩
  have hb := a_body_spec (hS.1 r hr).1
  refine ⟨hC.1 r hr, fun p hp => ?_⟩
  rw [DT_eq hw hS hC hr hb] at hp
  obtain ⟨q, hq, rfl⟩ := List.mem_map.mp hp
  exact ⟨_, hS.2.2.1 r _ hr hb q hq, rfl⟩
noncomputable def b_wd (z : AS) (nd : Nat → Prop) (x : Nat) (R : List Nat) (B : Nat → Nat) (n : Nat) : List Nat × List Int32 := b_run (DT z nd R B) n 0 [B (a_ld z x)]
theorem b_wd_ok {z : AS} (hw : a_wf z) {nd : Nat → Prop} {x : Nat} {R : List Nat} {B : Nat → Nat} (hS : SD z x R) (hC : CUT z R B) {n : Nat} (hn : R.length < n) : (∃ L, (b_wd z nd x R B n).1 = B (a_ld z x) :: L) ∧ (b_wd z nd x R B n).1.Nodup ∧ (∀ c ∈ (b_wd z nd x R B n).1, b_in R B c) ∧ (∀ r ∈ R, B r ∈ (b_wd z nd x R B n).1) ∧ (b_wd z nd x R B n).2 = (b_wd z nd x R B n).1.flatMap (fun c => b_enc (b_item (DT z nd R B) (b_wd z nd x R B n).1 c)) := by
  obtain ⟨h1, h2, h3, h4, h5⟩ := b_run_ok (DT_in (nd := nd) hw hS hC) n 0 [B (a_ld z x)] (by omega) (Nat.zero_le _) (by simp) (fun c hc => by
    rw [List.mem_singleton] at hc
    exact ⟨_, hS.2.1, hc.symm⟩)
  rw [List.drop_zero] at h4 h5
  refine ⟨h1, h2, h3, fun r hr => ?_, h5⟩
  have := (hS.1 r hr).2.2 (fun i => i ∈ R ∧ B i ∈ (b_run (DT z nd R B) n 0 [B (a_ld z x)]).1) ⟨hS.2.1, by
    obtain ⟨L, e⟩ := h1
    rw [e]
    exact List.mem_append.mpr (Or.inl List.mem_cons_self)⟩ (fun i b q hi hb hq => ⟨hS.2.2.1 i b hi.1 hb q hq, by
    have := h4 _ hi.2
    rw [DT_eq hw hS hC hi.1 hb] at this
    exact this (q.1, B (a_ld z q.2)) (List.mem_map.mpr ⟨q, hq, rfl⟩)⟩)
  exact this.2
theorem b_wd_len {z : AS} (hw : a_wf z) (ht : a_t z ≤ 512) (hs : a_sum z ≤ 512) {nd : Nat → Prop} {x : Nat} {R : List Nat} {B : Nat → Nat} (hS : SD z x R) (hC : CUT z R B) {n : Nat} (hn : R.length < n) : (b_wd z nd x R B n).2.length ≤ 2560 ∧ (b_wd z nd x R B n).1.length ≤ R.length := by
  obtain ⟨-, h2, h3, -, h5⟩ := b_wd_ok (nd := nd) hw hS hC hn
  generalize b_wd z nd x R B n = W at h2 h3 h5 ⊢
  have hlt : ∀ c ∈ W.1, c < R.length := fun c hc => (DT_in (nd := nd) hw hS hC c (h3 c hc)).1
  have hl := nodup_len h2 hlt
  refine ⟨?_, hl⟩
  rw [h5]
  have e1 : ∀ M : List Nat, (M.flatMap (fun c => b_enc (b_item (DT z nd R B) W.1 c))).length = 3 * M.length + 2 * (M.flatMap (fun c => (DT z nd R B c).2.2)).length := fun M => by
    induction M with
    | nil => rfl
    | cons a M ih =>
      rw [List.flatMap_cons, List.flatMap_cons, List.length_append, List.length_append, ih, List.length_cons]
      have : (b_enc (b_item (DT z nd R B) W.1 a)).length = 3 + 2 * (DT z nd R B a).2.2.length := by
        unfold b_enc b_item
        show ((((DT z nd R B a).2.2.map _).flatMap _).length + 1 + 1) + 1 = _
        rw [List.flatMap_map]
        have : ∀ l : List (Int32 × Nat), (l.flatMap (fun p => [p.1, nI (W.1.idxOf p.2)])).length = 2 * l.length := fun l => by
          induction l with
          | nil => rfl
          | cons a l ih =>
            rw [List.flatMap_cons, List.length_append, ih]
            show 2 + 2 * l.length = 2 * (l.length + 1)
            omega
        have h := this (DT z nd R B a).2.2
        show (List.flatMap (fun p => [p.1, nI (W.1.idxOf p.2)]) (DT z nd R B a).2.2).length + 1 + 1 + 1 = _
        omega
      omega
  rw [e1, flat_sum _ _ h2 hlt]
  have h := sumf_inj (t := a_t z) (b := fun c => a_body z (b_rep R B c)) (K := fun c => pb (c ∈ W.1)) R.length (fun j => (a_fl z j).length) (fun c hc _ => by
    obtain ⟨r, hr, rfl⟩ := h3 c (pb_iff.mp hc)
    exact al_lt hw (a_body_spec (hS.1 _ (b_rep_spec hr).1).1).1) (fun c d hc hd _ _ e => by
    obtain ⟨r, hr, rfl⟩ := h3 c (pb_iff.mp hc)
    obtain ⟨s, hs, rfl⟩ := h3 d (pb_iff.mp hd)
    obtain ⟨k1, k2⟩ := b_rep_spec (B := B) hr
    obtain ⟨l1, l2⟩ := b_rep_spec (B := B) hs
    have m1 := (a_body_spec (hS.1 _ k1).1).2.1
    have m2 := (a_body_spec (hS.1 _ l1).1).2.1
    have e' : a_body z (b_rep R B (B r)) = a_body z (b_rep R B (B s)) := e
    rw [e', m2, (hS.1 _ k1).2.1, (hS.1 _ l1).2.1] at m1
    rw [← k2, ← m1, l2])
  have h' : sumf (fun c => if pb (c ∈ W.1) then (DT z nd R B c).2.2.length else 0) R.length ≤ a_sum z := by
    refine Nat.le_trans (Nat.le_of_eq (sumf_congr (fun c _ => ?_))) h
    show (if pb (c ∈ W.1) = true then (DT z nd R B c).2.2.length else 0) = (if pb (c ∈ W.1) = true then (a_fl z (a_body z (b_rep R B c))).length else 0)
    unfold DT b_dat
    show (if pb (c ∈ W.1) = true then ((a_fl z (a_body z (b_rep R B c))).map _).length else 0) = _
    rw [List.length_map]
  have := hS.2.2.2.2
  omega
/-- from a likeness: blocks of one side go to one block of the other -/
theorem phi_fun {z : AS} (hw : a_wf z) {nd : Nat → Prop} {S : Nat → Nat → Prop} (hE : eqv S) (hL : ∀ u v, cod z u → cod z v → S u v → ∀ b c, a_bd z (u / 2) b → a_bd z (v / 2) c → a_sh z b c ∧ (∀ (k : Nat) (q q2 : Int32 × Nat), (a_fl z b)[k]? = some q → (a_fl z c)[k]? = some q2 → S (2 * a_ld z q.2 + u % 2) (2 * a_ld z q2.2 + v % 2)) ∧ (a_kd z b = 0 ∨ a_kd z b = 4 → u ≠ v → u % 2 ≠ v % 2 ∧ (a_nd z nd (u / 2) ↔ a_nd z nd (v / 2)) ∧ ∀ w, cod z w → S u w → w = u ∨ w = v)) {σ τ : Nat} (hσ : σ < 2) (hτ : τ < 2) {x1 x2 : Nat} {R1 R2 : List Nat} {B1 B2 : Nat → Nat} (hS1 : SD z x1 R1) (hC1 : CUT z R1 B1) (hS2 : SD z x2 R2) (hC2 : CUT z R2 B2) {r1 r2 s1 s2 : Nat} (m1 : r1 ∈ R1) (m2 : r2 ∈ R1) (n1 : s1 ∈ R2) (n2 : s2 ∈ R2) (e : B1 r1 = B1 r2) (p1 : S (2 * r1 + σ) (2 * s1 + τ)) (p2 : S (2 * r2 + σ) (2 * s2 + τ)) : B2 s1 = B2 s2 := by
  have cd : ∀ r τ, τ < 2 → al z r → a_ld z r = r → cod z (2 * r + τ) := fun r τ h h1 h2 => by
    unfold cod
    rw [show (2 * r + τ) / 2 = r by omega]
    exact ⟨h1, h2⟩
  have use : ∀ r s σ τ, σ < 2 → τ < 2 → al z r → a_ld z r = r → al z s → a_ld z s = s → S (2 * r + σ) (2 * s + τ) → ∀ b c, a_bd z r b → a_bd z s c → a_sh z b c ∧ (∀ (k : Nat) (q q2 : Int32 × Nat), (a_fl z b)[k]? = some q → (a_fl z c)[k]? = some q2 → S (2 * a_ld z q.2 + σ) (2 * a_ld z q2.2 + τ)) ∧ (a_kd z b = 0 ∨ a_kd z b = 4 → 2 * r + σ ≠ 2 * s + τ → σ ≠ τ) := fun r s σ τ h1 h2 h3 h4 h5 h6 h7 b c hb hc => by
    have d1 : (2 * r + σ) / 2 = r := by omega
    have d2 : (2 * s + τ) / 2 = s := by omega
    have d3 : (2 * r + σ) % 2 = σ := by omega
    have d4 : (2 * s + τ) % 2 = τ := by omega
    have := hL _ _ (cd r σ h1 h3 h4) (cd s τ h2 h5 h6) h7 b c (by rw [d1]; exact hb) (by rw [d2]; exact hc)
    rw [d3, d4] at this
    exact ⟨this.1, this.2.1, fun a b => (this.2.2 a b).1⟩
  have one : ∀ r s, r ∈ R1 → s ∈ R1 → S (2 * r + σ) (2 * s + σ) → B1 r = B1 s := hC1.2.2 (fun r s => S (2 * r + σ) (2 * s + σ)) ⟨fun i => hE.1 _, fun i j h => hE.2.1 _ _ h, fun i j k h h' => hE.2.2 _ _ _ h h'⟩ (fun r s hr hs h hne b c hb hc => by
    have hr' := hS1.1 r hr
    have hs' := hS1.1 s hs
    obtain ⟨g1, g2, g3⟩ := use r s σ σ hσ hσ hr'.1 hr'.2.1 hs'.1 hs'.2.1 h b c hb hc
    exact ⟨fun w => g3 (Or.inl w) (by omega) rfl, fun w => g3 (Or.inr w) (by omega) rfl, g1, g2⟩)
  refine hC2.2.2 (fun r' s' => r' = s' ∨ ∃ r s, r ∈ R1 ∧ s ∈ R1 ∧ B1 r = B1 s ∧ S (2 * r + σ) (2 * r' + τ) ∧ S (2 * s + σ) (2 * s' + τ)) ⟨fun i => Or.inl rfl, fun i j h => ?_, fun i j k h h' => ?_⟩ (fun r' s' hr' hs' h hne b' c' hb' hc' => ?_) s1 s2 n1 n2 (Or.inr ⟨r1, r2, m1, m2, e, p1, p2⟩)
  · rcases h with h | ⟨r, s, h1, h2, h3, h4, h5⟩
    · exact Or.inl h.symm
    · exact Or.inr ⟨s, r, h2, h1, h3.symm, h5, h4⟩
  · rcases h with rfl | ⟨r, s, h1, h2, h3, h4, h5⟩
    · exact h'
    · rcases h' with rfl | ⟨r', s', k1, k2, k3, k4, k5⟩
      · exact Or.inr ⟨r, s, h1, h2, h3, h4, h5⟩
      · exact Or.inr ⟨r, s', h1, k2, h3.trans ((one s r' h2 k1 (hE.2.2 _ _ _ h5 (hE.2.1 _ _ k4))).trans k3), h4, k5⟩
  · rcases h with h | ⟨r, s, h1, h2, h3, h4, h5⟩
    · exact absurd h hne
    · have hr0 := hS1.1 r h1
      have hs0 := hS1.1 s h2
      have hr0' := hS2.1 r' hr'
      have hs0' := hS2.1 s' hs'
      have hb := a_body_spec hr0.1
      have hc := a_body_spec hs0.1
      generalize a_body z r = b at hb
      generalize a_body z s = c at hc
      obtain ⟨g1, g2, -⟩ := use r r' σ τ hσ hτ hr0.1 hr0.2.1 hr0'.1 hr0'.2.1 h4 b b' hb hb'
      obtain ⟨k1, k2, -⟩ := use s s' σ τ hσ hτ hs0.1 hs0.2.1 hs0'.1 hs0'.2.1 h5 c c' hc hc'
      have mid : a_sh z b c ∧ (∀ (k : Nat) (q q2 : Int32 × Nat), (a_fl z b)[k]? = some q → (a_fl z c)[k]? = some q2 → B1 (a_ld z q.2) = B1 (a_ld z q2.2)) ∧ a_kd z b' ≠ 0 ∧ a_kd z b' ≠ 4 := by
        by_cases ers : r = s
        · subst ers
          obtain ⟨m1, m2⟩ := bd_same hw hb hc
          have hS' := hE.2.2 _ _ _ (hE.2.1 _ _ h4) h5
          obtain ⟨-, -, l3⟩ := use r' s' τ τ hτ hτ hr0'.1 hr0'.2.1 hs0'.1 hs0'.2.1 hS' b' c' hb' hc'
          exact ⟨m1, fun k q q2 hq hq2 => by rw [m2 k q q2 hq hq2], fun w => l3 (Or.inl w) (by omega) rfl, fun w => l3 (Or.inr w) (by omega) rfl⟩
        · obtain ⟨l1, l2, l3, l4⟩ := hC1.2.1 r s h1 h2 h3 ers b c hb hc
          exact ⟨l3, l4, by rw [← g1.1]; exact l1, by rw [← g1.1]; exact l2⟩
      obtain ⟨m1, m2, m3, m4⟩ := mid
      refine ⟨m3, m4, a_sh_trans (a_sh_symm g1) (a_sh_trans m1 k1), fun k q q2 hq hq2 => Or.inr ?_⟩
      obtain ⟨qb, a1, -⟩ := a_sh_at (a_sh_symm g1) hq
      obtain ⟨qc, a2, -⟩ := a_sh_at (a_sh_symm k1) hq2
      exact ⟨a_ld z qb.2, a_ld z qc.2, hS1.2.2.1 r b h1 hb qb (List.mem_of_getElem? a1), hS1.2.2.1 s c h2 hc qc (List.mem_of_getElem? a2), m2 k qb qc a1 a2, g2 k qb q a1 hq, k2 k qc q2 a2 hq2⟩
/-- likeness gives equal words -/
theorem words_of {z : AS} (hw : a_wf z) {nd : Nat → Prop} {x y : Nat} {S : Nat → Nat → Prop} (hS : LKS z nd x y S) {R1 R2 : List Nat} {B1 B2 : Nat → Nat} (hS1 : SD z x R1) (hC1 : CUT z R1 B1) (hS2 : SD z y R2) (hC2 : CUT z R2 B2) (n : Nat) : (b_wd z nd x R1 B1 n).2 = (b_wd z nd y R2 B2 n).2 := by
  obtain ⟨hE, h0, hL⟩ := hS
  have ffun : ∀ c d d', (∃ r s, r ∈ R1 ∧ s ∈ R2 ∧ B1 r = c ∧ B2 s = d ∧ S (2 * r + 0) (2 * s + 1)) → (∃ r s, r ∈ R1 ∧ s ∈ R2 ∧ B1 r = c ∧ B2 s = d' ∧ S (2 * r + 0) (2 * s + 1)) → d = d' := by
    rintro c d d' ⟨r, s, a1, a2, a3, a4, a5⟩ ⟨r', s', b1, b2, b3, b4, b5⟩
    rw [← a4, ← b4]
    exact phi_fun hw hE hL (by omega) (by omega) hS1 hC1 hS2 hC2 a1 b1 a2 b2 (a3.trans b3.symm) a5 b5
  have finj : ∀ c c' d, (∃ r s, r ∈ R1 ∧ s ∈ R2 ∧ B1 r = c ∧ B2 s = d ∧ S (2 * r + 0) (2 * s + 1)) → (∃ r s, r ∈ R1 ∧ s ∈ R2 ∧ B1 r = c' ∧ B2 s = d ∧ S (2 * r + 0) (2 * s + 1)) → c = c' := by
    rintro c c' d ⟨r, s, a1, a2, a3, a4, a5⟩ ⟨r', s', b1, b2, b3, b4, b5⟩
    rw [← a3, ← b3]
    exact phi_fun hw hE hL (by omega) (by omega) hS2 hC2 hS1 hC1 a2 b2 a1 b1 (a4.trans b4.symm) (hE.2.1 _ _ a5) (hE.2.1 _ _ b5)
  have spec : ∀ c, (∃ d, ∃ r s, r ∈ R1 ∧ s ∈ R2 ∧ B1 r = c ∧ B2 s = d ∧ S (2 * r + 0) (2 * s + 1)) → ∃ r s, r ∈ R1 ∧ s ∈ R2 ∧ B1 r = c ∧ B2 s = Classical.epsilon (fun d => ∃ r s, r ∈ R1 ∧ s ∈ R2 ∧ B1 r = c ∧ B2 s = d ∧ S (2 * r + 0) (2 * s + 1)) ∧ S (2 * r + 0) (2 * s + 1) := fun c h => Classical.epsilon_spec h
  obtain ⟨φ, eφ⟩ : ∃ φ : Nat → Nat, ∀ c, φ c = Classical.epsilon (fun d => ∃ r s, r ∈ R1 ∧ s ∈ R2 ∧ B1 r = c ∧ B2 s = d ∧ S (2 * r + 0) (2 * s + 1)) := ⟨_, fun c => rfl⟩
  have spec2 : ∀ c, (∃ d, ∃ r s, r ∈ R1 ∧ s ∈ R2 ∧ B1 r = c ∧ B2 s = d ∧ S (2 * r + 0) (2 * s + 1)) → ∃ r s, r ∈ R1 ∧ s ∈ R2 ∧ B1 r = c ∧ B2 s = φ c ∧ S (2 * r + 0) (2 * s + 1) := fun c h => by
    rw [eφ c]; exact spec c h
  have hrun := b_run_map (φ := φ) (Q := fun c => ∃ d, ∃ r s, r ∈ R1 ∧ s ∈ R2 ∧ B1 r = c ∧ B2 s = d ∧ S (2 * r + 0) (2 * s + 1)) (D := DT z nd R1 B1) (D2 := DT z nd R2 B2) (fun c d hc hd e => finj c d (φ c) (spec2 c hc) (e ▸ spec2 d hd)) (fun c hc => by
    obtain ⟨r, s, a1, a2, a3, a4, a5⟩ := spec2 c hc
    have hr := hS1.1 r a1
    have hs := hS2.1 s a2
    have hb := a_body_spec hr.1
    have hc := a_body_spec hs.1
    generalize a_body z r = b at hb
    generalize a_body z s = c' at hc
    have d1 : (2 * r + 0) / 2 = r := by omega
    have d2 : (2 * s + 1) / 2 = s := by omega
    have d3 : (2 * r + 0) % 2 = 0 := by omega
    have d4 : (2 * s + 1) % 2 = 1 := by omega
    have cr : cod z (2 * r + 0) := by unfold cod; rw [d1]; exact ⟨hr.1, hr.2.1⟩
    have cs : cod z (2 * s + 1) := by unfold cod; rw [d2]; exact ⟨hs.1, hs.2.1⟩
    obtain ⟨g1, g2, g3⟩ := hL _ _ cr cs a5 b c' (by rw [d1]; exact hb) (by rw [d2]; exact hc)
    rw [d3, d4] at g2
    rw [d1, d2] at g3
    rw [← a3, DT_eq hw hS1 hC1 a1 hb, a3, ← a4, DT_eq hw hS2 hC2 a2 hc]
    refine ⟨fun p hp => ?_, ?_⟩
    · obtain ⟨q, hq, rfl⟩ := List.mem_map.mp hp
      obtain ⟨k, hk⟩ := List.getElem?_of_mem hq
      obtain ⟨q2, e1, -⟩ := a_sh_at g1 hk
      exact ⟨B2 (a_ld z q2.2), a_ld z q.2, a_ld z q2.2, hS1.2.2.1 r b a1 hb q hq, hS2.2.2.1 s c' a2 hc q2 (List.mem_of_getElem? e1), rfl, rfl, g2 k q q2 hk e1⟩
    · unfold b_dat
      show (a_kd z c', (if a_kd z c' = 0 then (if pb (a_nd z nd s) then 1 else 0) else a_vl z c'), (a_fl z c').map (fun q => (q.1, B2 (a_ld z q.2)))) = (a_kd z b, (if a_kd z b = 0 then (if pb (a_nd z nd r) then 1 else 0) else a_vl z b), ((a_fl z b).map (fun q => (q.1, B1 (a_ld z q.2)))).map (fun p => (p.1, φ p.2)))
      have e1 : (a_fl z b).map (fun q => (q.1, φ (B1 (a_ld z q.2)))) = (a_fl z c').map (fun q => (q.1, B2 (a_ld z q.2))) := map_sh (B := fun i => φ (B1 i)) g1 (fun k q q2 hq hq2 => by
        have hh : ∃ r s, r ∈ R1 ∧ s ∈ R2 ∧ B1 r = B1 (a_ld z q.2) ∧ B2 s = B2 (a_ld z q2.2) ∧ S (2 * r + 0) (2 * s + 1) := ⟨a_ld z q.2, a_ld z q2.2, hS1.2.2.1 r b a1 hb q (List.mem_of_getElem? hq), hS2.2.2.1 s c' a2 hc q2 (List.mem_of_getElem? hq2), rfl, rfl, g2 k q q2 hq hq2⟩
        exact ffun _ _ _ (spec2 _ ⟨_, hh⟩) hh)
      rw [List.map_map, ← e1, ← g1.1, ← g1.2.1]
      have e2 : (if a_kd z b = 0 then (if pb (a_nd z nd s) then (1 : Int32) else 0) else a_vl z b) = (if a_kd z b = 0 then (if pb (a_nd z nd r) then 1 else 0) else a_vl z b) := by
        by_cases w : a_kd z b = 0
        · rw [if_pos w, if_pos w, propext (g3 (Or.inl w) (by omega)).2.1]
        · rw [if_neg w, if_neg w]
      rw [e2]
      rfl)
  have hstart : ∃ r s, r ∈ R1 ∧ s ∈ R2 ∧ B1 r = B1 (a_ld z x) ∧ B2 s = B2 (a_ld z y) ∧ S (2 * r + 0) (2 * s + 1) := ⟨a_ld z x, a_ld z y, hS1.2.1, hS2.2.1, rfl, rfl, h0⟩
  have hr := hrun n 0 [B1 (a_ld z x)] (fun i hi => by
    rw [List.mem_singleton] at hi
    rw [hi]; exact ⟨_, hstart⟩)
  have e0 : φ (B1 (a_ld z x)) = B2 (a_ld z y) := ffun _ _ _ (spec2 _ ⟨_, hstart⟩) hstart
  have hr2 : b_run (DT z nd R2 B2) n 0 [φ (B1 (a_ld z x))] = _ := hr
  rw [e0] at hr2
  unfold b_wd
  rw [hr2]
/-- equal words give likeness -/
theorem of_words {z : AS} (hw : a_wf z) (hsm : a_sum z ≤ 512) {nd : Nat → Prop} {x y : Nat} {R1 R2 : List Nat} {B1 B2 : Nat → Nat} (hS1 : SD z x R1) (hC1 : CUT z R1 B1) (hS2 : SD z y R2) (hC2 : CUT z R2 B2) {n : Nat} (hn1 : R1.length < n) (hn2 : R2.length < n) (ht : a_t z ≤ 512) (h : (b_wd z nd x R1 B1 n).2 = (b_wd z nd y R2 B2 n).2) : ∃ S, LKS z nd x y S := by
  obtain ⟨⟨L1, p1⟩, p2, p3, p4, p5⟩ := b_wd_ok (nd := nd) hw hS1 hC1 hn1
  obtain ⟨⟨L2, q1⟩, q2, q3, q4, q5⟩ := b_wd_ok (nd := nd) hw hS2 hC2 hn2
  rw [p5, q5] at h
  have bl : ∀ b, al z b → (a_fl z b).length ≤ 512 := fun b hb => by
    have h1 := sumf_mono (f := fun i => (a_fl z i).length) (show b + 1 ≤ a_t z from al_lt hw hb)
    rw [sumf_s] at h1
    have h2 : sumf (fun i => (a_fl z i).length) b + (a_fl z b).length ≤ a_sum z := h1
    omega
  have small : ∀ (x : Nat) (R : List Nat) (B : Nat → Nat), SD z x R → CUT z R B → ∀ M : List Nat, (∀ c ∈ M, b_in R B c) → ∀ i ∈ M.map (b_item (DT z nd R B) M), i.2.2.length < 2 ^ 31 := fun x R B hS hC M hM i hi => by
    obtain ⟨c, hc, rfl⟩ := List.mem_map.mp hi
    obtain ⟨r, hr, rfl⟩ := hM c hc
    unfold b_item
    show ((DT z nd R B (B r)).2.2.map _).length < 2 ^ 31
    have hb := a_body_spec (hS.1 r hr).1
    rw [List.length_map, DT_eq hw hS hC hr hb]
    show ((a_fl z _).map _).length < 2 ^ 31
    rw [List.length_map]
    have := bl _ hb.1
    omega
  have s1 := small x R1 B1 hS1 hC1 _ p3
  have s2 := small y R2 B2 hS2 hC2 _ q3
  generalize (b_wd z nd x R1 B1 n).1 = M1 at p1 p2 p3 p4 h s1
  generalize (b_wd z nd y R2 B2 n).1 = M2 at q1 q2 q3 q4 h s2
  have hit : M1.map (b_item (DT z nd R1 B1) M1) = M2.map (b_item (DT z nd R2 B2) M2) := by
    refine enc_inj _ _ s1 s2 ?_
    rw [List.flatMap_map, List.flatMap_map]
    exact h
  have hl1 := nodup_len p2 (fun c hc => (DT_in (nd := nd) hw hS1 hC1 c (p3 c hc)).1)
  have hl2 := nodup_len q2 (fun c hc => (DT_in (nd := nd) hw hS2 hC2 c (q3 c hc)).1)
  have hr1 := hS1.2.2.2.2
  have hr2 := hS2.2.2.2.2
  -- blocks at one place have one item
  have cross : ∀ r s, r ∈ R1 → s ∈ R2 → M1.idxOf (B1 r) = M2.idxOf (B2 s) → ∀ b c, a_bd z r b → a_bd z s c → a_sh z b c ∧ (∀ (k : Nat) (q q2 : Int32 × Nat), (a_fl z b)[k]? = some q → (a_fl z c)[k]? = some q2 → M1.idxOf (B1 (a_ld z q.2)) = M2.idxOf (B2 (a_ld z q2.2))) ∧ (a_kd z b = 0 → (a_nd z nd r ↔ a_nd z nd s)) := fun r s hr hs e b c hb hc => by
    have k1 : M1[M1.idxOf (B1 r)]? = some (B1 r) := idx_at (p4 r hr)
    have k2 : M2[M2.idxOf (B2 s)]? = some (B2 s) := idx_at (q4 s hs)
    have k3 := congrArg (fun l => l[M1.idxOf (B1 r)]?) hit
    simp only [List.getElem?_map, k1] at k3
    rw [e, k2] at k3
    have k4 : b_item (DT z nd R1 B1) M1 (B1 r) = b_item (DT z nd R2 B2) M2 (B2 s) := Option.some.inj k3
    unfold b_item at k4
    rw [DT_eq hw hS1 hC1 hr hb, DT_eq hw hS2 hC2 hs hc] at k4
    unfold b_dat at k4
    rw [Prod.mk.injEq, Prod.mk.injEq] at k4
    obtain ⟨e1, e2, e3⟩ := k4
    have e1' : a_kd z b = a_kd z c := e1
    have e2' : (if a_kd z b = 0 then (if pb (a_nd z nd r) then (1 : Int32) else 0) else a_vl z b) = (if a_kd z c = 0 then (if pb (a_nd z nd s) then 1 else 0) else a_vl z c) := e2
    have e3' : ((a_fl z b).map (fun q => (q.1, B1 (a_ld z q.2)))).map (fun p => (p.1, nI (M1.idxOf p.2))) = ((a_fl z c).map (fun q => (q.1, B2 (a_ld z q.2)))).map (fun p => (p.1, nI (M2.idxOf p.2))) := e3
    rw [List.map_map, List.map_map] at e3'
    have e4 : (a_fl z b).map (fun q => (q.1, nI (M1.idxOf (B1 (a_ld z q.2))))) = (a_fl z c).map (fun q => (q.1, nI (M2.idxOf (B2 (a_ld z q.2))))) := e3'
    refine ⟨⟨e1', ?_, ?_⟩, fun k q q2 hq hq2 => ?_, fun w => ?_⟩
    · by_cases w : a_kd z b = 0
      · rw [hw.2.2.2.2.2.1 b hb.1 w, hw.2.2.2.2.2.1 c hc.1 (e1'.symm.trans w)]
      · rw [if_neg w, if_neg (fun q => w (e1'.trans q))] at e2'
        exact e2'
    · have := congrArg (List.map Prod.fst) e4
      rw [List.map_map, List.map_map] at this
      exact this
    · have := congrArg (fun l => l[k]?) e4
      simp only [List.getElem?_map, hq, hq2, Option.map_some] at this
      have h3 := congrArg Prod.snd (Option.some.inj this)
      have i1 := List.idxOf_lt_length_of_mem (p4 _ (hS1.2.2.1 r b hr hb q (List.mem_of_getElem? hq)))
      have i2 := List.idxOf_lt_length_of_mem (q4 _ (hS2.2.2.1 s c hs hc q2 (List.mem_of_getElem? hq2)))
      exact (nI_eq (by omega) (by omega)).mp h3
    · rw [if_pos w, if_pos (e1'.symm.trans w)] at e2'
      by_cases a1 : a_nd z nd r <;> by_cases a2 : a_nd z nd s
      · exact ⟨fun _ => a2, fun _ => a1⟩
      · rw [pb_t a1, pb_f a2] at e2'; exact absurd e2' (by decide)
      · rw [pb_f a1, pb_t a2] at e2'; exact absurd e2' (by decide)
      · exact ⟨fun q => absurd q a1, fun q => absurd q a2⟩
  -- on one side
  have same : ∀ (x : Nat) (R : List Nat) (B : Nat → Nat) (M : List Nat), SD z x R → CUT z R B → (∀ r ∈ R, B r ∈ M) → ∀ r s, r ∈ R → s ∈ R → M.idxOf (B r) = M.idxOf (B s) → B r = B s ∧ ∀ b c, a_bd z r b → a_bd z s c → a_sh z b c ∧ (∀ (k : Nat) (q q2 : Int32 × Nat), (a_fl z b)[k]? = some q → (a_fl z c)[k]? = some q2 → B (a_ld z q.2) = B (a_ld z q2.2)) ∧ (a_kd z b = 0 ∨ a_kd z b = 4 → r = s) := fun x R B M hS hC hM r s hr hs e => by
    have k1 : M[M.idxOf (B r)]? = some (B r) := idx_at (hM r hr)
    have k2 : M[M.idxOf (B s)]? = some (B s) := idx_at (hM s hs)
    rw [e, k2] at k1
    have eB : B r = B s := (Option.some.inj k1).symm
    refine ⟨eB, fun b c hb hc => ?_⟩
    by_cases ers : r = s
    · subst ers
      obtain ⟨m1, m2⟩ := bd_same hw hb hc
      exact ⟨m1, fun k q q2 hq hq2 => by rw [m2 k q q2 hq hq2], fun _ => rfl⟩
    · obtain ⟨g1, g2, g3, g4⟩ := hC.2.1 r s hr hs eB ers b c hb hc
      exact ⟨g3, g4, fun w => w.elim (fun w => absurd w g1) (fun w => absurd w g2)⟩
  -- labels
  obtain ⟨lab, hlab⟩ : ∃ lab : Nat → Nat, ∀ u, (u % 2 = 0 ∧ u / 2 ∈ R1 ∧ lab u = M1.idxOf (B1 (u / 2)) ∧ lab u < 1000) ∨ (u % 2 = 1 ∧ u / 2 ∈ R2 ∧ lab u = M2.idxOf (B2 (u / 2)) ∧ lab u < 1000) ∨ (¬ (u % 2 = 0 ∧ u / 2 ∈ R1) ∧ ¬ (u % 2 = 1 ∧ u / 2 ∈ R2) ∧ lab u = 1000 + u) := by
    refine ⟨fun u => if u % 2 = 0 ∧ u / 2 ∈ R1 then M1.idxOf (B1 (u / 2)) else if u % 2 = 1 ∧ u / 2 ∈ R2 then M2.idxOf (B2 (u / 2)) else 1000 + u, fun u => ?_⟩
    by_cases w1 : u % 2 = 0 ∧ u / 2 ∈ R1
    · have i1 := List.idxOf_lt_length_of_mem (p4 _ w1.2)
      exact Or.inl ⟨w1.1, w1.2, by show (if _ then _ else _) = _; rw [if_pos w1], by show (if _ then _ else _) < _; rw [if_pos w1]; omega⟩
    · by_cases w2 : u % 2 = 1 ∧ u / 2 ∈ R2
      · have i2 := List.idxOf_lt_length_of_mem (q4 _ w2.2)
        exact Or.inr (Or.inl ⟨w2.1, w2.2, by show (if _ then _ else _) = _; rw [if_neg w1, if_pos w2], by show (if _ then _ else _) < _; rw [if_neg w1, if_pos w2]; omega⟩)
      · exact Or.inr (Or.inr ⟨w1, w2, by show (if _ then _ else _) = _; rw [if_neg w1, if_neg w2]⟩)
  have lab1 : ∀ r, r ∈ R1 → lab (2 * r + 0) = M1.idxOf (B1 r) := fun r hr => by
    have d1 : (2 * r + 0) / 2 = r := by omega
    rcases hlab (2 * r + 0) with ⟨-, -, w, -⟩ | ⟨w, -⟩ | ⟨w, -⟩
    · rw [d1] at w; exact w
    · omega
    · rw [d1] at w; exact absurd ⟨by omega, hr⟩ w
  have lab2 : ∀ r, r ∈ R2 → lab (2 * r + 1) = M2.idxOf (B2 r) := fun r hr => by
    have d1 : (2 * r + 1) / 2 = r := by omega
    rcases hlab (2 * r + 1) with ⟨w, -⟩ | ⟨-, -, w, -⟩ | ⟨-, w, -⟩
    · omega
    · rw [d1] at w; exact w
    · rw [d1] at w; exact absurd ⟨by omega, hr⟩ w
  have ndK : ∀ r s b c, a_bd z r b → a_bd z s c → a_sh z b c → a_ld z r = r → a_ld z s = s → (a_kd z b = 0 → (a_nd z nd r ↔ a_nd z nd s)) → a_kd z b = 0 ∨ a_kd z b = 4 → (a_nd z nd r ↔ a_nd z nd s) := fun r s b c hb hc hsh h1 h2 h0 h04 => by
    rcases h04 with w | w
    · exact h0 w
    · have v1 : ¬ a_var z (a_ld z r) := fun q => by
        rw [(a_var_bd hb).mp q] at w; exact absurd w (by decide)
      have v2 : ¬ a_var z (a_ld z s) := fun q => by
        rw [hsh.1, (a_var_bd hc).mp q] at w; exact absurd w (by decide)
      exact ⟨fun _ => Or.inl v2, fun _ => Or.inl v1⟩
  refine ⟨fun u v => lab u = lab v, ⟨fun _ => rfl, fun _ _ h => h.symm, fun _ _ _ h1 h2 => h1.trans h2⟩, ?_, fun u v hu hv huv b c hb hc => ?_⟩
  · show lab (2 * a_ld z x + 0) = lab (2 * a_ld z y + 1)
    rw [lab1 _ hS1.2.1, lab2 _ hS2.2.1, p1, q1, List.idxOf_cons_self, List.idxOf_cons_self]
  · rcases hlab u with ⟨u1, u2, u3, u4⟩ | ⟨u1, u2, u3, u4⟩ | ⟨u1, u2, u3⟩ <;> rcases hlab v with ⟨v1, v2, v3, v4⟩ | ⟨v1, v2, v3, v4⟩ | ⟨v1, v2, v3⟩
    · obtain ⟨eB, g⟩ := same x R1 B1 M1 hS1 hC1 p4 _ _ u2 v2 (u3.symm.trans (huv.trans v3))
      obtain ⟨g1, g2, g3⟩ := g b c hb hc
      refine ⟨g1, fun k q q2 hq hq2 => ?_, fun h04 hne => absurd (g3 h04) (by omega)⟩
      show lab _ = lab _
      rw [u1, v1, lab1 _ (hS1.2.2.1 _ b u2 hb q (List.mem_of_getElem? hq)), lab1 _ (hS1.2.2.1 _ c v2 hc q2 (List.mem_of_getElem? hq2)), g2 k q q2 hq hq2]
    · obtain ⟨g1, g2, g3⟩ := cross _ _ u2 v2 (u3.symm.trans (huv.trans v3)) b c hb hc
      refine ⟨g1, fun k q q2 hq hq2 => ?_, fun h04 hne => ⟨by omega, ndK _ _ b c hb hc g1 hu.2 hv.2 g3 h04, fun w hw0 hw1 => ?_⟩⟩
      · show lab _ = lab _
        rw [u1, v1, lab1 _ (hS1.2.2.1 _ b u2 hb q (List.mem_of_getElem? hq)), lab2 _ (hS2.2.2.1 _ c v2 hc q2 (List.mem_of_getElem? hq2)), g2 k q q2 hq hq2]
      · have hw1' : lab u = lab w := hw1
        have hbw := a_body_spec hw0.1
        rcases hlab w with ⟨w1, w2, w3, w4⟩ | ⟨w1, w2, w3, w4⟩ | ⟨w1, w2, w3⟩
        · have := (same x R1 B1 M1 hS1 hC1 p4 _ _ u2 w2 (u3.symm.trans (hw1'.trans w3))).2 b _ hb hbw
          have := this.2.2 h04
          exact Or.inl (by omega)
        · have := (same y R2 B2 M2 hS2 hC2 q4 _ _ v2 w2 (v3.symm.trans (huv.symm.trans (hw1'.trans w3)))).2 c _ hc hbw
          have := this.2.2 (by rw [← g1.1]; exact h04)
          exact Or.inr (by omega)
        · omega
    · have huv' : lab u = lab v := huv
      omega
    · obtain ⟨g1, g2, g3⟩ := cross _ _ v2 u2 (v3.symm.trans (huv.symm.trans u3)) c b hc hb
      refine ⟨a_sh_symm g1, fun k q q2 hq hq2 => ?_, fun h04 hne => ⟨by omega, (ndK _ _ c b hc hb g1 hv.2 hu.2 g3 (by rw [g1.1]; exact h04)).symm, fun w hw0 hw1 => ?_⟩⟩
      · show lab _ = lab _
        rw [u1, v1, lab2 _ (hS2.2.2.1 _ b u2 hb q (List.mem_of_getElem? hq)), lab1 _ (hS1.2.2.1 _ c v2 hc q2 (List.mem_of_getElem? hq2)), g2 k q2 q hq2 hq]
      · have hw1' : lab u = lab w := hw1
        have hbw := a_body_spec hw0.1
        rcases hlab w with ⟨w1, w2, w3, w4⟩ | ⟨w1, w2, w3, w4⟩ | ⟨w1, w2, w3⟩
        · have := (same x R1 B1 M1 hS1 hC1 p4 _ _ v2 w2 (v3.symm.trans (huv.symm.trans (hw1'.trans w3)))).2 c _ hc hbw
          have := this.2.2 (by rw [g1.1]; exact h04)
          exact Or.inr (by omega)
        · have := (same y R2 B2 M2 hS2 hC2 q4 _ _ u2 w2 (u3.symm.trans (hw1'.trans w3))).2 b _ hb hbw
          have := this.2.2 h04
          exact Or.inl (by omega)
        · omega
    · obtain ⟨eB, g⟩ := same y R2 B2 M2 hS2 hC2 q4 _ _ u2 v2 (u3.symm.trans (huv.trans v3))
      obtain ⟨g1, g2, g3⟩ := g b c hb hc
      refine ⟨g1, fun k q q2 hq hq2 => ?_, fun h04 hne => absurd (g3 h04) (by omega)⟩
      show lab _ = lab _
      rw [u1, v1, lab2 _ (hS2.2.2.1 _ b u2 hb q (List.mem_of_getElem? hq)), lab2 _ (hS2.2.2.1 _ c v2 hc q2 (List.mem_of_getElem? hq2)), g2 k q q2 hq hq2]
    · have huv' : lab u = lab v := huv
      omega
    · have huv' : lab u = lab v := huv
      omega
    · have huv' : lab u = lab v := huv
      omega
    · have huv' : lab u = lab v := huv
      have e : u = v := by omega
      subst e
      obtain ⟨m1, m2⟩ := bd_same hw hb hc
      refine ⟨m1, fun k q q2 hq hq2 => ?_, fun _ w => absurd rfl w⟩
      show lab _ = lab _
      rw [m2 k q q2 hq hq2]
