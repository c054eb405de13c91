/-! cut, to its end -/
theorem cnt_mono {f g : Nat → Bool} : ∀ {t : Nat}, (∀ i, i < t → f i = true → g i = true) → cnt f t ≤ cnt g t ∧ (cnt f t = cnt g t → ∀ i, i < t → g i = true → f i = true) := by
  intro t
  induction t with
  | zero => intro _; exact ⟨Nat.le_refl _, fun _ i hi => by omega⟩
  | succ t ih =>
    intro h
    obtain ⟨h1, h2⟩ := ih (fun i hi => h i (by omega))
    have h3 := h t (by omega)
    rw [cnt_s, cnt_s]
    cases ef : f t with
    | true =>
      rw [h3 ef, if_pos rfl]
      refine ⟨by omega, fun e i hi hg => ?_⟩
      by_cases w : i = t
      · rw [w]; exact ef
      · exact h2 (by omega) i (by omega) hg
    | false =>
      cases eg : g t with
      | true =>
        rw [if_neg (by decide), if_pos rfl]
        exact ⟨by omega, fun e => by omega⟩
      | false =>
        rw [if_neg (by decide)]
        refine ⟨by omega, fun e i hi hg => ?_⟩
        by_cases w : i = t
        · rw [w, eg] at hg; exact absurd hg (by decide)
        · exact h2 (by omega) i (by omega) hg
noncomputable def fB (β : Nat → Nat) (k : Nat) : Bool := pb (∀ j, j < k → β j ≠ β k)
theorem fB_ex (β : Nat → Nat) : ∀ i, ∃ i0, i0 ≤ i ∧ β i0 = β i ∧ fB β i0 = true := by
  intro i
  induction i using Nat.strongRecOn with
  | ind i ih =>
    by_cases h : ∀ j, j < i → β j ≠ β i
    · exact ⟨i, Nat.le_refl _, rfl, pb_t h⟩
    · obtain ⟨j, hj⟩ := Classical.not_forall.mp h
      obtain ⟨hj1, hj2⟩ := Classical.not_imp.mp hj
      obtain ⟨i0, g1, g2, g3⟩ := ih j hj1
      exact ⟨i0, by omega, g2.trans (Classical.not_not.mp hj2), g3⟩
/-- a finer cut of as many blocks is the same cut -/
theorem fB_same {β β2 : Nat → Nat} {N : Nat} (h : ∀ i j, i < N → j < N → β2 i = β2 j → β i = β j) : cnt (fB β) N ≤ cnt (fB β2) N ∧ (cnt (fB β) N = cnt (fB β2) N → ∀ i j, i < N → j < N → β i = β j → β2 i = β2 j) := by
  obtain ⟨h1, h2⟩ := cnt_mono (f := fB β) (g := fB β2) (t := N) (fun i hi hf => pb_t (fun j hj e => pb_iff.mp hf j hj (h j i (by omega) hi e)))
  refine ⟨h1, fun e i j hi hj hij => ?_⟩
  have h3 := h2 e
  obtain ⟨i0, a1, a2, a3⟩ := fB_ex β2 i
  obtain ⟨j0, b1, b2, b3⟩ := fB_ex β2 j
  have a4 := pb_iff.mp (h3 i0 (by omega) a3)
  have b4 := pb_iff.mp (h3 j0 (by omega) b3)
  have e0 : β i0 = β j0 := (h i0 i (by omega) hi a2).trans (hij.trans (h j0 j (by omega) hj b2).symm)
  have : i0 = j0 := by
    rcases Nat.lt_trichotomy i0 j0 with w | w | w
    · exact absurd e0 (b4 i0 w)
    · exact w
    · exact absurd e0.symm (a4 j0 w)
  rw [← a2, ← b2, this]
def RC (m : S_Md) (z : AS) (st : Nat → Nat) (R : List Nat) : Prop :=
  RL m ∧ RZ m z st ∧ a_wf z ∧ (a_t z ≤ 512 ∧ a_sum z ≤ 512) ∧ (∀ k r, R[k]? = some r → (Md_reached m).2 k = nI r) ∧ R.Nodup ∧ (∀ r ∈ R, al z r ∧ a_ld z r = r) ∧ (∀ r b, r ∈ R → a_bd z r b → ∀ q ∈ a_fl z b, a_ld z q.2 ∈ R) ∧ R.length ≤ a_t z ∧ 0 < R.length
abbrev rr (R : List Nat) (i : Nat) : Nat := R.getD i 0
theorem rr_at {R : List Nat} {i : Nat} (h : i < R.length) : R[i]? = some (rr R i) := by
  rw [List.getElem?_eq_getElem h]
  unfold rr
  rw [List.getD_eq_getElem?_getD, List.getElem?_eq_getElem h]
  rfl
theorem rr_eq {R : List Nat} {i r : Nat} (h : R[i]? = some r) : rr R i = r := by
  unfold rr
  rw [List.getD_eq_getElem?_getD, h]
  rfl
theorem rr_mem {R : List Nat} {i : Nat} (h : i < R.length) : rr R i ∈ R := List.mem_of_getElem? (rr_at h)
theorem idx_rr {R : List Nat} (hD : R.Nodup) {i r : Nat} (h : R[i]? = some r) : R.idxOf r = i := by
  have h1 := idx_at (List.mem_of_getElem? h)
  have hl := (List.getElem?_eq_some_iff.mp h1).1
  exact (List.getElem?_inj hl hD).mp (h1.trans h.symm)
theorem BN_L {m : S_Md} (hL : RL m) {bl nb : Nat → Int32} : RL (Md_set_BN m (32768, bl) (32768, nb)) := ⟨hL.1, hL.2.1, ⟨hL.2.2.1.1, hL.2.2.1.2.1, rfl, rfl, hL.2.2.1.2.2.2.2⟩, hL.2.2.2⟩
theorem RC_K {m : S_Md} {z : AS} {st : Nat → Nat} {R : List Nat} (H : RC m z st R) {bl nb : Nat → Int32} {B : Nat → Nat} (hB : ∀ k r, R[k]? = some r → bl k = nI (B r)) (hl : ∀ r ∈ R, B r < R.length) : RK (Md_set_BN m (32768, bl) (32768, nb)) R B := by
  obtain ⟨h1, h2, h3, h4, h5, h6, h7, h8, h9, h10⟩ := H
  refine ⟨h5, hB, fun r hr => ?_, by omega⟩
  have := hl r hr
  have := al_lt h3 (h7 r hr).1
  exact ⟨by omega, by omega⟩
theorem r_firstL {n : Nat} (hn : 100000 ≤ n) {m : S_Md} {z : AS} {st : Nat → Nat} {R : List Nat} (H : RC m z st R) {bl nb : Nat → Int32} {B : Nat → Nat} (hB : ∀ k r, R[k]? = some r → bl k = nI (B r)) (hl : ∀ r ∈ R, B r < R.length) {i : Nat} (hi : i < R.length) (y1 y2 y3 : Int32) : ∀ (fuel j : Nat), i - j < fuel → j ≤ i → (∀ k, k < j → ¬ lkr z B (rr R k) (rr R i)) → xo (L_Md_cut_48 y1 y2 y3 (nI i) (Md_set_BN m (32768, bl) (32768, nb)) n fuel (nI j)) (fun o c => c = 0 ∧ ∃ j0, o = nI j0 ∧ j0 ≤ i ∧ lkr z B (rr R j0) (rr R i) ∧ ∀ k, k < j0 → ¬ lkr z B (rr R k) (rr R i)) := by
  have hK := RC_K (nb := nb) H hB hl
  obtain ⟨h1, h2, h3, h4, h5, h6, h7, h8, h9, h10⟩ := H
  intro fuel
  induction fuel with
  | zero => intro j h; omega
  | succ fuel ih =>
    intro j g1 g2 g3
    rw [L_Md_cut_48_s]
    refine xo_b _ (r_isLike (n := n) (st := st) hn (BN_L h1) h2 h3 h4.1 h4.2 hK h6 h7 h8 (rr_at (show j < R.length by omega)) (rr_at hi) y1) (fun o c g => ?_)
    obtain ⟨rfl, g⟩ := g
    rcases g with ⟨rfl, g⟩ | ⟨rfl, g⟩
    · rw [if_neg (by decide)]
      exact xo_p ⟨rfl, j, rfl, g2, g, g3⟩
    · rw [if_pos rfl, nI_1]
      have hne : j ≠ i := fun w => g (w ▸ Or.inl rfl)
      refine xo_m (ih (j + 1) (by omega) (by omega) (fun k hk => ?_)) (fun o c w => ⟨by omega, w.2⟩)
      by_cases e : k = j
      · rw [e]; exact g
      · exact g3 k (by omega)
noncomputable def fL (z : AS) (R : List Nat) (B : Nat → Nat) (k : Nat) : Bool := pb (∀ j, j < k → ¬ lkr z B (rr R j) (rr R k))
theorem r_passL {n : Nat} (hn : 100000 ≤ n) {m : S_Md} {z : AS} {st : Nat → Nat} {R : List Nat} (H : RC m z st R) {bl : Nat → Int32} {B : Nat → Nat} (hB : ∀ k r, R[k]? = some r → bl k = nI (B r)) (hl : ∀ r ∈ R, B r < R.length) (y3 : Int32) : ∀ (fuel i : Nat) (s : S_Md) (nb : Nat → Int32) (g : Nat → Nat), R.length - i < fuel → i ≤ R.length → s = Md_set_BN m (32768, bl) (32768, nb) → (∀ k, k < i → nb k = nI (g k)) → (∀ k l, k < i → l < i → (g k = g l ↔ lkr z B (rr R k) (rr R l))) → (∀ k, k < i → g k < cnt (fL z R B) i) → xo (L_Md_cut_39 (nI R.length) y3 n fuel (nI (cnt (fL z R B) i)) (nI i) s) (fun o c => c = 0 ∧ ∃ (nb : Nat → Int32) (g : Nat → Nat), o.2.2 = Md_set_BN m (32768, bl) (32768, nb) ∧ o.1 = nI (cnt (fL z R B) R.length) ∧ (∀ k, k < R.length → nb k = nI (g k)) ∧ (∀ k l, k < R.length → l < R.length → (g k = g l ↔ lkr z B (rr R k) (rr R l))) ∧ ∀ k, k < R.length → g k < cnt (fL z R B) R.length) := by
  have H0 := H
  obtain ⟨h1, h2, h3, h4, h5, h6, h7, h8, h9, h10⟩ := H
  have alr : ∀ k, k < R.length → al z (rr R k) := fun k hk => (h7 _ (rr_mem hk)).1
  intro fuel
  induction fuel with
  | zero => intro i s nb g h; omega
  | succ fuel ih =>
    intro i s nb g g1 g2 es g3 g4 g5
    rw [L_Md_cut_39_s]
    refine xo_le R.length i rfl rfl (by omega) (by omega) (fun q => ?_) (fun q => ?_)
    · have : i = R.length := by omega
      subst this
      exact xo_p ⟨rfl, nb, g, es, rfl, g3, g4, g5⟩
    · subst es
      have hcl := cnt_le (fL z R B) i
      have hh := r_firstL (n := n) hn H0 (nb := nb) hB hl q (nI R.length) (nI (cnt (fL z R B) i)) y3 n 0 (by omega) (Nat.zero_le _) (fun k hk => by omega)
      rw [← nI0] at hh
      refine xo_b _ hh (fun o1 c1 w1 => ?_)
      obtain ⟨rfl, j0, rfl, w2, w3, w4⟩ := w1
      by_cases e : j0 = i
      · subst e
        rw [if_pos rfl, xm_b_p]
        refine xo_wr j0 rfl (by show j0 < 32768; omega) (by omega) ?_
        rw [if_pos rfl, xm_b_p, nI_1, nI_1]
        have hf : cnt (fL z R B) (j0 + 1) = cnt (fL z R B) j0 + 1 := by
          rw [cnt_s, show fL z R B j0 = true from pb_t w4, if_pos rfl]
        rw [← hf]
        refine xo_m (ih (j0 + 1) _ (upd nb j0 (nI (cnt (fL z R B) j0))) (fun k => if k = j0 then cnt (fL z R B) j0 else g k) (by omega) (by omega) rfl (fun k hk => ?_) (fun k l hk hl' => ?_) (fun k hk => ?_)) (fun o c w => ⟨by omega, w.2⟩)
        · show upd nb j0 _ k = nI (if k = j0 then _ else g k)
          rw [upd_at]
          by_cases e3 : k = j0
          · rw [if_pos e3, if_pos e3]
          · rw [if_neg e3, if_neg e3]; exact g3 k (by omega)
        · show (if k = j0 then _ else g k) = (if l = j0 then _ else g l) ↔ _
          by_cases e3 : k = j0 <;> by_cases e4 : l = j0
          · rw [if_pos e3, if_pos e4, e3, e4]
            exact ⟨fun _ => Or.inl rfl, fun _ => rfl⟩
          · rw [if_pos e3, if_neg e4, e3]
            have := g5 l (by omega)
            refine ⟨fun w => by omega, fun w => absurd (lkr_symm h3 (alr _ q) (alr l (by omega)) w) (w4 l (by omega))⟩
          · rw [if_neg e3, if_pos e4, e4]
            have := g5 k (by omega)
            refine ⟨fun w => by omega, fun w => absurd w (w4 k (by omega))⟩
          · rw [if_neg e3, if_neg e4]
            exact g4 k l (by omega) (by omega)
        · show (if k = j0 then _ else g k) < _
          rw [hf]
          by_cases e3 : k = j0
          · rw [if_pos e3]; omega
          · rw [if_neg e3]
            have := g5 k (by omega)
            omega
      · have hne : ¬ (nI j0 = nI i) := fun w => e ((nI_eq (by omega) (by omega)).mp w)
        rw [if_neg hne]
        refine xo_b (fun o c => c = 0 ∧ o = nb j0) (xo_rd j0 rfl (by show j0 < 32768; omega) (by omega) (xo_p ⟨rfl, rfl⟩)) (fun o2 c2 w5 => ?_)
        obtain ⟨rfl, rfl⟩ := w5
        rw [g3 j0 (by omega)]
        refine xo_wr i rfl (by show i < 32768; omega) (by omega) ?_
        rw [if_neg hne, xm_b_p, nI_1]
        have hf : cnt (fL z R B) (i + 1) = cnt (fL z R B) i := by
          rw [cnt_s, show fL z R B i = false from pb_f (fun w => w j0 (by omega) w3), if_neg (by decide)]
          rfl
        rw [← hf]
        refine xo_m (ih (i + 1) _ (upd nb i (nI (g j0))) (fun k => if k = i then g j0 else g k) (by omega) (by omega) rfl (fun k hk => ?_) (fun k l hk hl' => ?_) (fun k hk => ?_)) (fun o c w => ⟨by omega, w.2⟩)
        · show upd nb i _ k = nI (if k = i then _ else g k)
          rw [upd_at]
          by_cases e3 : k = i
          · rw [if_pos e3, if_pos e3]
          · rw [if_neg e3, if_neg e3]; exact g3 k (by omega)
        · show (if k = i then _ else g k) = (if l = i then _ else g l) ↔ _
          have a0 := alr j0 (by omega)
          have ai := alr i q
          by_cases e3 : k = i <;> by_cases e4 : l = i
          · rw [if_pos e3, if_pos e4, e3, e4]
            exact ⟨fun _ => Or.inl rfl, fun _ => rfl⟩
          · rw [if_pos e3, if_neg e4, e3, g4 j0 l (by omega) (by omega)]
            exact ⟨fun w => lkr_trans h3 a0 (lkr_symm h3 a0 ai w3) w, fun w => lkr_trans h3 ai w3 w⟩
          · rw [if_neg e3, if_pos e4, e4, g4 k j0 (by omega) (by omega)]
            exact ⟨fun w => lkr_trans h3 a0 w w3, fun w => lkr_trans h3 ai w (lkr_symm h3 a0 ai w3)⟩
          · rw [if_neg e3, if_neg e4]
            exact g4 k l (by omega) (by omega)
        · show (if k = i then _ else g k) < _
          rw [hf]
          by_cases e3 : k = i
          · rw [if_pos e3]; exact g5 j0 (by omega)
          · rw [if_neg e3]; exact g5 k (by omega)
noncomputable def cB (R : List Nat) (B : Nat → Nat) : Nat := cnt (fB (fun k => B (rr R k))) R.length
theorem r_cutL {n : Nat} (hn : 100000 ≤ n) {m : S_Md} {z : AS} {st : Nat → Nat} {R : List Nat} (H : RC m z st R) : ∀ (fuel : Nat) (bf : Nat) (B : Nat → Nat) (bl nb : Nat → Int32) (x4 : Int32) (s : S_Md), R.length - bf < fuel → bf ≤ R.length → s = Md_set_BN m (32768, bl) (32768, nb) → (∀ k r, R[k]? = some r → bl k = nI (B r)) → (∀ r ∈ R, B r < R.length) → (∀ T, eqv T → stb z R T → ∀ r s, r ∈ R → s ∈ R → T r s → B r = B s) → (bf = 0 ∨ ∃ Bp, bf = cB R Bp ∧ ∀ r s, r ∈ R → s ∈ R → (B r = B s ↔ lkr z Bp r s)) → xo (L_Md_cut_27 (nI R.length) n fuel (nI (cB R B)) (nI bf) x4 s) (fun o c => c = 0 ∧ ∃ (B : Nat → Nat) (bl nb : Nat → Int32), o.2.2.2 = Md_set_BN m (32768, bl) (32768, nb) ∧ (∀ k r, R[k]? = some r → bl k = nI (B r)) ∧ CUT z R B) := by
  have H0 := H
  obtain ⟨h1, h2, h3, h4, h5, h6, h7, h8, h9, h10⟩ := H
  intro fuel
  induction fuel with
  | zero => intro bf B bl nb x4 s h; omega
  | succ fuel ih =>
    intro bf B bl nb x4 s g1 g2 es g3 g4 g5 g6
    have hc1 : cB R B ≤ R.length := cnt_le _ _
    have hc0 : 1 ≤ cB R B := by
      have : cnt (fB (fun k => B (rr R k))) 1 ≤ cB R B := by
        unfold cB
        generalize R.length = N at h10
        induction N with
        | zero => omega
        | succ N ih =>
          by_cases e : N = 0
          · subst e; exact Nat.le_refl _
          · rw [cnt_s _ N]
            have := ih (by omega)
            omega
      have h0 : cnt (fB (fun k => B (rr R k))) 1 = 1 := by
        rw [cnt_s, show fB (fun k => B (rr R k)) 0 = true from pb_t (fun j hj => by omega), if_pos rfl]
        rfl
      omega
    rw [L_Md_cut_27_s]
    refine xo_eq (cB R B) bf rfl rfl (by omega) (by omega) (fun e => ?_) (fun e => ?_)
    · refine xo_p ⟨rfl, B, bl, nb, es, g3, g4, fun r t hr ht' hB hne b c hb hc => ?_, g5⟩
      rcases g6 with w | ⟨Bp, w1, w2⟩
      · omega
      · have hpart : ∀ u v, u ∈ R → v ∈ R → Bp u = Bp v → B u = B v := fun u v hu hv huv => by
          have hs := (fB_same (β := fun k => Bp (rr R k)) (β2 := fun k => B (rr R k)) (N := R.length) (fun i j hi hj hij => by
            rcases (w2 _ _ (rr_mem hi) (rr_mem hj)).mp hij with q | q
            · show Bp (rr R i) = Bp (rr R j)
              rw [q]
            · exact q.1)).2 (w1.symm.trans e.symm)
          obtain ⟨i, hi⟩ := List.getElem?_of_mem hu
          obtain ⟨j, hj⟩ := List.getElem?_of_mem hv
          have := hs i j (List.getElem?_eq_some_iff.mp hi).1 (List.getElem?_eq_some_iff.mp hj).1
          rw [rr_eq hi, rr_eq hj] at this
          exact this huv
        rcases (w2 r t hr ht').mp hB with q | ⟨-, q⟩
        · exact absurd q hne
        · obtain ⟨k1, k2, k3, k4⟩ := q b c hb hc
          exact ⟨k1, k2, k3, fun k q q2 hq hq2 => hpart _ _ (h8 r b hr hb q (List.mem_of_getElem? hq)) (h8 t c ht' hc q2 (List.mem_of_getElem? hq2)) (k4 k q q2 hq hq2)⟩
    · have hlt : bf < cB R B := by
        rcases g6 with w | ⟨Bp, w1, w2⟩
        · omega
        · have hs := (fB_same (β := fun k => Bp (rr R k)) (β2 := fun k => B (rr R k)) (N := R.length) (fun i j hi hj hij => by
            rcases (w2 _ _ (rr_mem hi) (rr_mem hj)).mp hij with q | q
            · show Bp (rr R i) = Bp (rr R j)
              rw [q]
            · exact q.1)).1
          have hs' : cB R Bp ≤ cB R B := hs
          omega
      have hh := r_passL (n := n) hn H0 g3 g4 (nI (cB R B)) n 0 s nb (fun _ => 0) (by omega) (Nat.zero_le _) es (fun k hk => by omega) (fun k l hk => by omega) (fun k hk => by omega)
      rw [show nI (cnt (fL z R B) 0) = (0 : Int32) from nI_0, ← nI0] at hh
      refine xo_b _ hh (fun o c w => ?_)
      obtain ⟨rfl, nb2, g, w1, w2, w3, w4, w5⟩ := w
      rw [w1, w2]
      refine xo_cp 0 0 R.length nI0 nI0 rfl (by show 0 + R.length ≤ 32768; omega) (by show 0 + R.length ≤ 32768; omega) (by omega) (by omega) ?_
      have idx : ∀ k r, R[k]? = some r → R.idxOf r = k := fun k r hk => idx_rr h6 hk
      have hB2 : ∀ r t, r ∈ R → t ∈ R → (g (R.idxOf r) = g (R.idxOf t) ↔ lkr z B r t) := fun r t hr ht' => by
        obtain ⟨i, hi⟩ := List.getElem?_of_mem hr
        obtain ⟨j, hj⟩ := List.getElem?_of_mem ht'
        have := w4 i j (List.getElem?_eq_some_iff.mp hi).1 (List.getElem?_eq_some_iff.mp hj).1
        rw [rr_eq hi, rr_eq hj] at this
        rw [idx i r hi, idx j t hj]
        exact this
      have hcB : cB R (fun r => g (R.idxOf r)) = cnt (fL z R B) R.length := by
        unfold cB
        refine cnt_congr (fun k hk => ?_)
        unfold fB fL
        have : (∀ j, j < k → g (R.idxOf (rr R j)) ≠ g (R.idxOf (rr R k))) ↔ (∀ j, j < k → ¬ lkr z B (rr R j) (rr R k)) := by
          refine ⟨fun w j hj q => w j hj ((hB2 _ _ (rr_mem (by omega)) (rr_mem hk)).mpr q), fun w j hj q => w j hj ((hB2 _ _ (rr_mem (by omega)) (rr_mem hk)).mp q)⟩
        show pb (∀ j, j < k → g (R.idxOf (rr R j)) ≠ g (R.idxOf (rr R k))) = _
        rw [propext this]
      rw [← hcB]
      refine xo_m (ih (cB R B) (fun r => g (R.idxOf r)) (va_cpy nb2 bl 0 0 R.length) nb2 _ _ (by omega) hc1 rfl (fun k r hk => ?_) (fun r hr => ?_) (fun T hT1 hT2 r t hr ht' hrt => ?_) (Or.inr ⟨B, rfl, hB2⟩)) (fun o c w => ⟨by omega, w.2⟩)
      · have hkl := (List.getElem?_eq_some_iff.mp hk).1
        rw [pk_cpy_in (by omega) (by omega), Nat.zero_add, Nat.sub_zero, w3 k hkl, idx k r hk]
      · obtain ⟨i, hi⟩ := List.getElem?_of_mem hr
        have hil := (List.getElem?_eq_some_iff.mp hi).1
        have := w5 i hil
        have := cnt_le (fL z R B) R.length
        show g (R.idxOf r) < R.length
        rw [idx i r hi]
        omega
      · refine (hB2 r t hr ht').mpr ?_
        by_cases ert : r = t
        · exact Or.inl ert
        · refine Or.inr ⟨g5 T hT1 hT2 r t hr ht' hrt, fun b c hb hc => ?_⟩
          obtain ⟨k1, k2, k3, k4⟩ := hT2 r t hr ht' hrt ert b c hb hc
          exact ⟨k1, k2, k3, fun k q q2 hq hq2 => g5 T hT1 hT2 _ _ (h8 r b hr hb q (List.mem_of_getElem? hq)) (h8 t c ht' hc q2 (List.mem_of_getElem? hq2)) (k4 k q q2 hq hq2)⟩
theorem r_zeroL {n : Nat} {m : S_Md} {N : Nat} (hN : N ≤ 512) {nb : Nat → Int32} (y2 y3 : Int32) : ∀ (fuel i : Nat) (s : S_Md) (bl : Nat → Int32), N - i < fuel → i ≤ N → s = Md_set_BN m (32768, bl) (32768, nb) → (∀ k, k < i → bl k = 0) → xo (L_Md_cut_7 (nI N) y2 y3 n fuel (nI i) s) (fun o c => c = 0 ∧ ∃ bl : Nat → Int32, o.2 = Md_set_BN m (32768, bl) (32768, nb) ∧ ∀ k, k < N → bl k = 0) := by
  intro fuel
  induction fuel with
  | zero => intro i s bl h; omega
  | succ fuel ih =>
    intro i s bl g1 g2 es g3
    rw [L_Md_cut_7_s]
    refine xo_le N i rfl rfl (by omega) (by omega) (fun q => ?_) (fun q => ?_)
    · have : i = N := by omega
      subst this
      exact xo_p ⟨rfl, bl, es, g3⟩
    · subst es
      refine xo_wr i rfl (by show i < 32768; omega) (by omega) ?_
      rw [nI_1]
      refine xo_m (ih (i + 1) _ (upd bl i 0) (by omega) (by omega) rfl (fun k hk => ?_)) (fun o c w => w)
      rw [upd_at]
      by_cases e : k = i
      · rw [if_pos e]
      · rw [if_neg e]; exact g3 k (by omega)
theorem r_cut {n : Nat} (hn : 100000 ≤ n) {m : S_Md} {z : AS} {st : Nat → Nat} {R : List Nat} (H : RC m z st R) : xo (m_Md_cut n m (nI R.length)) (fun o c => c = 0 ∧ ∃ (B : Nat → Nat) (bl nb : Nat → Int32), o = Md_set_BN m (32768, bl) (32768, nb) ∧ (∀ k r, R[k]? = some r → bl k = nI (B r)) ∧ CUT z R B) := by
  have H0 := H
  obtain ⟨h1, h2, h3, h4, h5, h6, h7, h8, h9, h10⟩ := H
  have lb : (Md_blocks m).1 = 32768 := h1.2.2.1.2.2.1
  have ln : (Md_newBlocks m).1 = 32768 := h1.2.2.1.2.2.2.1
  have em : m = Md_set_BN m (32768, (Md_blocks m).2) (32768, (Md_newBlocks m).2) := by
    rw [← lb, show ((Md_blocks m).1, (Md_newBlocks m).2) = (((Md_newBlocks m).1, (Md_newBlocks m).2) : Ar) by rw [lb, ln]]
  unfold m_Md_cut
  have hh := r_zeroL (n := n) (m := m) (N := R.length) (by omega) (nb := (Md_newBlocks m).2) 1 0 n 0 m (Md_blocks m).2 (by omega) (Nat.zero_le _) em (fun k hk => by omega)
  rw [← nI0] at hh
  refine xo_b _ hh (fun o c w => ?_)
  obtain ⟨rfl, bl, w1, w2⟩ := w
  have hc := r_cutL (n := n) hn H0 n 0 (fun _ => 0) bl (Md_newBlocks m).2 o.1 o.2 (by omega) (Nat.zero_le _) w1 (fun k r hk => by rw [w2 k (List.getElem?_eq_some_iff.mp hk).1]; exact nI0) (fun r hr => h10) (fun T _ _ r s _ _ _ => rfl) (Or.inl rfl)
  have e1 : cB R (fun _ => 0) = 1 := by
    unfold cB
    generalize R.length = N at h10
    clear hc hh w2 h9
    induction N with
    | zero => omega
    | succ N ih =>
      by_cases e : N = 0
      · subst e
        rw [cnt_s, show fB (fun _ => 0) 0 = true from pb_t (fun j hj => by omega), if_pos rfl]
        rfl
      · rw [cnt_s, ih (by omega), show fB (fun _ => 0) N = false from pb_f (fun w => w 0 (by omega) rfl), if_neg (by decide)]
  rw [e1, ← nI1, ← nI0] at hc
  refine xo_b _ hc (fun o2 c2 w => ?_)
  obtain ⟨rfl, B, bl2, nb2, k1, k2, k3⟩ := w
  exact xo_p ⟨rfl, B, bl2, nb2, k1, k2, k3⟩
