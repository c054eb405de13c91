/-! the reference equates -/
def SR (z : AS) (x y : Nat) (R : Nat → Nat) : Prop :=
  (∀ i, e_eq z x y i (R i)) ∧
  (∀ i, R i ≤ i ∧ R (R i) = R i) ∧
  (∀ i, al z i → R (a_ld z i) = R i) ∧
  (∀ i, ¬ al z i → R i = i)
theorem SR.s1 {z : AS} {x y : Nat} {R : Nat → Nat} (H : SR z x y R) : ∀ i, e_eq z x y i (R i) := H.1
theorem SR.s2 {z : AS} {x y : Nat} {R : Nat → Nat} (H : SR z x y R) : ∀ i, R i ≤ i ∧ R (R i) = R i := H.2.1
theorem SR.s3 {z : AS} {x y : Nat} {R : Nat → Nat} (H : SR z x y R) : ∀ i, al z i → R (a_ld z i) = R i := H.2.2.1
theorem SR.s4 {z : AS} {x y : Nat} {R : Nat → Nat} (H : SR z x y R) : ∀ i, ¬ al z i → R i = i := H.2.2.2
theorem SR_al {z : AS} (hw : a_wf z) {x y : Nat} (hx : al z x) (hy : al z y) {R : Nat → Nat} (T : SR z x y R) {i : Nat} (hi : al z i) : al z (R i) := by
  rcases e_al hw hx hy (T.s1 i) with w | w
  · rw [← w]; exact hi
  · exact w.2
theorem jR_same {R : Nat → Nat} {a : Nat} : jR R a a = R := by
  funext i
  unfold jR
  by_cases e : R i = a ∨ R i = a
  · rw [if_pos e, Nat.min_self]
    exact (e.elim id id).symm
  · rw [if_neg e]
theorem SR_join {z : AS} (hw : a_wf z) {x y : Nat} (hx : al z x) (hy : al z y) {R : Nat → Nat} (T : SR z x y R) {u v : Nat} (hu : al z u) (hv : al z v) (huv : e_eq z x y u v) : SR z x y (jR R (R u) (R v)) := by
  have E := (e_self (z := z) (x := x) (y := y))
  have eab : e_eq z x y (R u) (R v) := E.1.2.2 _ _ _ (E.1.2.1 _ _ (T.s1 u)) (E.1.2.2 _ _ _ huv (T.s1 v))
  have ala := SR_al hw hx hy T hu
  have alb := SR_al hw hx hy T hv
  have raa : R (R u) = R u := (T.s2 u).2
  have rbb : R (R v) = R v := (T.s2 v).2
  generalize R u = a at *
  generalize R v = b at *
  have minR : R (min a b) = min a b := by
    by_cases e : a ≤ b
    · rw [Nat.min_eq_left e]; exact raa
    · rw [Nat.min_eq_right (by omega)]; exact rbb
  refine ⟨fun i => ?_, fun i => ?_, fun i hi => jR_old (T.s3 i hi), fun i hi => ?_⟩
  · unfold jR
    have h1 := T.s1 i
    by_cases e : R i = a ∨ R i = b
    · rw [if_pos e]
      by_cases e2 : a ≤ b
      · rw [Nat.min_eq_left e2]
        rcases e with w | w
        · rw [w] at h1; exact h1
        · rw [w] at h1; exact E.1.2.2 _ _ _ h1 (E.1.2.1 _ _ eab)
      · rw [Nat.min_eq_right (by omega)]
        rcases e with w | w
        · rw [w] at h1; exact E.1.2.2 _ _ _ h1 eab
        · rw [w] at h1; exact h1
    · rw [if_neg e]; exact h1
  · unfold jR
    have := (T.s2 i).1
    by_cases e : R i = a ∨ R i = b
    · rw [if_pos e, minR, if_pos (by omega)]
      exact ⟨by omega, rfl⟩
    · rw [if_neg e, (T.s2 i).2, if_neg e]
      exact ⟨this, rfl⟩
  · unfold jR
    rw [T.s4 i hi, if_neg (fun w => by rcases w with w | w; exact hi (w ▸ ala); exact hi (w ▸ alb))]
noncomputable def cR (z : AS) (R : Nat → Nat) : Nat := cnt (fun r => pb (al z r ∧ R r = r)) (a_t z)
theorem cR_join {z : AS} (hw : a_wf z) {R : Nat → Nat} {a b : Nat} (ha : al z a) (hb : al z b) (ea : R a = a) (eb : R b = b) (hab : a ≠ b) : cR z (jR R a b) + 1 = cR z R := by
  unfold cR
  have hla := al_lt hw ha
  have hlb := al_lt hw hb
  refine (cnt_set (x := max a b) (by omega) ?_ ?_ (fun i hi => ?_)).symm
  · refine pb_f (fun w => ?_)
    have := (jR_root ea eb w.2).2 (by omega)
    omega
  · refine pb_t ?_
    by_cases e : a ≤ b
    · rw [Nat.max_eq_right e]; exact ⟨hb, eb⟩
    · rw [Nat.max_eq_left (by omega)]; exact ⟨ha, ea⟩
  · have e : (al z i ∧ jR R a b i = i) ↔ (al z i ∧ R i = i) := by
      refine ⟨fun w => ⟨w.1, (jR_root ea eb w.2).1⟩, fun w => ⟨w.1, ?_⟩⟩
      unfold jR
      rw [w.2]
      by_cases e2 : i = a ∨ i = b
      · rw [if_pos e2]; omega
      · rw [if_neg e2]
    show pb (al z i ∧ jR R a b i = i) = pb (al z i ∧ R i = i)
    by_cases w : al z i ∧ R i = i
    · rw [pb_t w, pb_t (e.mpr w)]
    · rw [pb_f w, pb_f (fun q => w (e.mp q))]
/-- all that are determined and the same agree, and so do their parts -/
def CLO (z : AS) (R : Nat → Nat) : Prop := ∀ i j, al z i → al z j → a_kd z i ≠ 0 → a_kd z j ≠ 0 → R i = R j → a_go z i j ∧ ∀ (k : Nat) (q q2 : Int32 × Nat), (a_fl z i)[k]? = some q → (a_fl z j)[k]? = some q2 → R q.2 = R q2.2
theorem SR_done {z : AS} {x y : Nat} {R : Nat → Nat} (T : SR z x y R) (hxy : R x = R y) (hC : CLO z R) : e_min z x y R ∧ ¬ e_bad z x y := by
  have hm : e_min z x y R := e_found T.s1 (fun i => (T.s2 i).1) T.s3 hxy (fun i j m q q2 hi hj h3 hij hgo hq hq2 => by
    have h0 : a_kd z i ≠ 0 := fun w => by rw [w] at h3; exact absurd h3 (by decide)
    exact (hC i j hi hj h0 (fun w => h0 (hgo.1.trans w)) hij).2 m q q2 hq hq2)
  exact ⟨hm, fun ⟨i, j, hi, hj, hi0, hj0, hE, hg⟩ => hg (hC i j hi hj hi0 hj0 ((e_min_iff hm).mp hE)).1⟩
def TR (m : S_Md) (z : AS) (R : Nat → Nat) (s : S_Md) : Prop := ∃ tr sh : Nat → Int32, s = Md_set_TS m (32768, tr) (32768, sh) ∧ ∀ i, al z i → tr i = nI (R i)
theorem TR_L {m s : S_Md} {z : AS} {R : Nat → Nat} (h : TR m z R s) (hL : RL m) : RL s := by
  obtain ⟨tr, sh, rfl, -⟩ := h
  exact ⟨⟨hL.1.1, hL.1.2.1, hL.1.2.2.1, hL.1.2.2.2.1, hL.1.2.2.2.2.1, hL.1.2.2.2.2.2.1, hL.1.2.2.2.2.2.2.1, rfl, rfl⟩, hL.2⟩
theorem TR_Z {m s : S_Md} {z : AS} {R : Nat → Nat} {st : Nat → Nat} (h : TR m z R s) (hZ : RZ m z st) : RZ s z st := by
  obtain ⟨tr, sh, rfl, -⟩ := h
  exact hZ
theorem TR_at {m s : S_Md} {z : AS} {R : Nat → Nat} (h : TR m z R s) {i : Nat} (hi : al z i) : (Md_trial s).2 i = nI (R i) := by
  obtain ⟨tr, sh, rfl, h2⟩ := h
  exact h2 i hi
theorem r_joinL {n : Nat} {m : S_Md} {z : AS} {st : Nat → Nat} (hL : RL m) (hZ : RZ m z st) (hw : a_wf z) (ht : a_t z ≤ 512) {R : Nat → Nat} (hR : ∀ i, al z i → R i ≤ i) {lo mo : Nat} (hlo : lo < 512) (hmo : mo < 512) (hne : lo ≠ mo) (y2 y3 : Int32) {sh : Nat → Int32} : ∀ (fuel k : Nat) (s : S_Md) (tr : Nat → Int32), a_t z - k < fuel → k ≤ 512 → s = Md_set_TS m (32768, tr) (32768, sh) → (∀ i, al z i → tr i = nI (if i < k ∧ R i = mo then lo else R i)) → xo (L_Md_join_44 y2 y3 (nI lo) (nI mo) n fuel (nI k) s) (fun o c => c = 0 ∧ ∃ tr2, o.2 = Md_set_TS m (32768, tr2) (32768, sh) ∧ ∀ i, al z i → tr2 i = nI (if R i = mo then lo else R i)) := by
  have l1 := hL.1.1
  intro fuel
  induction fuel with
  | zero => intro k s tr h; omega
  | succ fuel ih =>
    intro k s tr h1 h2 h3 h4
    subst h3
    rw [L_Md_join_44_s]
    refine xo_le (a_t z) k hZ.1.1 rfl (by omega) (by omega) (fun q => ?_) (fun q => ?_)
    · refine xo_p ⟨rfl, tr, rfl, fun i hi => ?_⟩
      have := al_lt hw hi
      rw [h4 i hi]
      by_cases e : R i = mo
      · rw [if_pos e, if_pos ⟨by omega, e⟩]
      · rw [if_neg e, if_neg (fun w => e w.2)]
    · rw [if_neg (fun w => hne ((nI_eq (by omega) (by omega)).mp w))]
      refine xo_rd k rfl (by show k < (Md_kinds m).1; omega) (by omega) ?_
      show xo (xm_b (if (Md_kinds m).2 k = -1 then _ else _) _) _
      rw [hZ.2.1 k (by omega)]
      refine xo_b (fun v c => c = 0 ∧ (al z k → v = nI (if R k = mo then lo else R k))) ?_ (fun v c gv => ?_)
      · refine xo_if (fun e => ?_) (fun e => ?_)
        · refine xo_rd k rfl (by show k < 32768; omega) (by omega) ?_
          exact xo_p ⟨rfl, fun w => absurd e w⟩
        · have hk : al z k := e
          have := hR k hk
          have hkt := al_lt hw hk
          refine xo_rd k rfl (by show k < 32768; omega) (by omega) ?_
          show xo (if tr k = nI mo then _ else _) _
          rw [h4 k hk, if_neg (show ¬ (k < k ∧ R k = mo) from fun w => by omega)]
          refine xo_eq _ _ rfl rfl (by omega) (by omega) (fun w => ?_) (fun w => ?_)
          · exact xo_p ⟨rfl, fun _ => by rw [if_pos w]⟩
          · refine xo_rd k rfl (by show k < 32768; omega) (by omega) ?_
            refine xo_p ⟨rfl, fun _ => ?_⟩
            show tr k = _
            rw [h4 k hk, if_neg (show ¬ (k < k ∧ R k = mo) from fun w => by omega), if_neg w]
      · obtain ⟨rfl, gv⟩ := gv
        refine xo_wr k rfl (by show k < 32768; omega) (by omega) ?_
        rw [nI_1]
        refine xo_m (ih (k + 1) _ (upd tr k v) (by omega) (by omega) rfl (fun i hi => ?_)) (fun o c g => ⟨by have := g.1; omega, g.2⟩)
        rw [upd_at]
        by_cases e : i = k
        · subst e
          rw [if_pos rfl, gv hi]
          by_cases w : R i = mo
          · rw [if_pos w, if_pos ⟨by omega, w⟩]
          · rw [if_neg w, if_neg (fun w2 => w w2.2)]
        · rw [if_neg e, h4 i hi]
          by_cases w : i < k ∧ R i = mo
          · rw [if_pos w, if_pos ⟨by omega, w.2⟩]
          · rw [if_neg w, if_neg (fun w2 => w ⟨by omega, w2.2⟩)]
theorem r_join {n : Nat} (hn : 100000 ≤ n) {m : S_Md} {z : AS} {st : Nat → Nat} (hL : RL m) (hZ : RZ m z st) (hw : a_wf z) (ht : a_t z ≤ 512) {R : Nat → Nat} (hR : ∀ i, R i ≤ i) {s : S_Md} (hS : TR m z R s) {u v : Nat} (hu : al z u) (hv : al z v) : xo (m_Md_join n s (nI u) (nI v)) (fun o c => c = 0 ∧ TR m z (jR R (R u) (R v)) o.2 ∧ Md_shown o.2 = Md_shown s ∧ ((o.1 = 0 ∧ R u = R v) ∨ (o.1 = 1 ∧ R u ≠ R v))) := by
  have hS0 := hS
  have hLs := TR_L hS hL
  have lt := hLs.1.2.2.2.2.2.2.2.1
  have hul := al_lt hw hu
  have hvl := al_lt hw hv
  have e1 := TR_at hS hu
  have e2 := TR_at hS hv
  have r1 := hR u
  have r2 := hR v
  unfold m_Md_join
  refine xo_rd u rfl (by omega) (by omega) ?_
  refine xo_rd v rfl (by omega) (by omega) ?_
  rw [e1, e2]
  refine xo_b (fun o c => c = 0 ∧ o = nI (min (R u) (R v))) ?_ (fun o c g => ?_)
  · refine xo_le _ _ rfl rfl (by omega) (by omega) (fun w => ?_) (fun w => ?_)
    · refine xo_rd v rfl (by omega) (by omega) ?_
      rw [e2]
      exact xo_p ⟨rfl, by rw [Nat.min_eq_right w]⟩
    · refine xo_rd u rfl (by omega) (by omega) ?_
      rw [e1]
      exact xo_p ⟨rfl, by rw [Nat.min_eq_left (by omega)]⟩
  · obtain ⟨rfl, rfl⟩ := g
    refine xo_rd u rfl (by omega) (by omega) ?_
    refine xo_rd v rfl (by omega) (by omega) ?_
    rw [e1, e2]
    refine xo_b (fun o c => c = 0 ∧ o = nI (max (R u) (R v))) ?_ (fun o c g => ?_)
    · refine xo_le _ _ rfl rfl (by omega) (by omega) (fun w => ?_) (fun w => ?_)
      · refine xo_rd u rfl (by omega) (by omega) ?_
        rw [e1]
        exact xo_p ⟨rfl, by rw [Nat.max_eq_left w]⟩
      · refine xo_rd v rfl (by omega) (by omega) ?_
        rw [e2]
        exact xo_p ⟨rfl, by rw [Nat.max_eq_right (by omega)]⟩
    · obtain ⟨rfl, rfl⟩ := g
      by_cases e : R u = R v
      · have em : min (R u) (R v) = max (R u) (R v) := by omega
        have hh : L_Md_join_44 (nI u) (nI v) (nI (min (R u) (R v))) (nI (max (R u) (R v))) n n (nI (max (R u) (R v))) s = xm_p (nI (max (R u) (R v)), s) := by
          obtain ⟨k, rfl⟩ : ∃ k, n = k + 1 := ⟨n - 1, by omega⟩
          rw [L_Md_join_44_s, em, if_pos (rfl : nI (max (R u) (R v)) = nI (max (R u) (R v)))]
          split <;> rfl
        rw [hh, xm_b_p, em, if_pos rfl]
        exact xo_p ⟨rfl, by rw [e, jR_same]; exact hS0, rfl, Or.inl ⟨rfl, e⟩⟩
      · obtain ⟨tr, sh, es, hs⟩ := hS
        refine xo_b _ (r_joinL (n := n) hL hZ hw ht (R := R) (fun i _ => hR i) (lo := min (R u) (R v)) (mo := max (R u) (R v)) (by omega) (by omega) (by omega) (nI u) (nI v) n (max (R u) (R v)) s tr (by omega) (by omega) es (fun i hi => ?_)) (fun o c g => ?_)
        · have := hR i
          rw [hs i hi, if_neg (fun w => by omega)]
        · obtain ⟨rfl, tr2, g1, g2⟩ := g
          rw [if_neg (fun w => by have := (nI_eq (by omega) (by omega)).mp w; omega)]
          refine xo_p ⟨rfl, ⟨tr2, sh, g1, fun i hi => ?_⟩, by rw [g1, es], Or.inr ⟨rfl, e⟩⟩
          rw [g2 i hi]
          congr 1
          unfold jR
          by_cases w1 : R i = max (R u) (R v)
          · rw [if_pos w1, if_pos (by omega)]
          · rw [if_neg w1]
            by_cases w2 : R i = R u ∨ R i = R v
            · rw [if_pos w2]; omega
            · rw [if_neg w2]
theorem r_goL {n : Nat} {m : S_Md} {z : AS} {st : Nat → Nat} (hL : RL m) (hZ : RZ m z st) (hw : a_wf z) (ht : a_t z ≤ 512) (hs : a_sum z ≤ 512) {u v : Nat} (hu : al z u) (hv : al z v) : ∀ (fuel k : Nat) (b : Int32), (a_fl z u).length - k < fuel → k ≤ (a_fl z u).length → ((b = 1 ∧ (a_fl z u).length = (a_fl z v).length ∧ ∀ (j : Nat) (q q2 : Int32 × Nat), j < k → (a_fl z u)[j]? = some q → (a_fl z v)[j]? = some q2 → q.1 = q2.1) ∨ (b = 0 ∧ (a_fl z u).map Prod.fst ≠ (a_fl z v).map Prod.fst) ∨ (b = 0 ∧ k = 0)) → xo (L_Md_go_69 (nI u) (nI v) m n fuel b (nI k)) (fun o c => c = 0 ∧ ((o.1 = 1 ∧ b = 1 ∧ (a_fl z u).map Prod.fst = (a_fl z v).map Prod.fst) ∨ (o.1 = 0 ∧ ((a_fl z u).map Prod.fst ≠ (a_fl z v).map Prod.fst ∨ b = 0)))) := by
  obtain ⟨l1, l2, l3, l4, l5, l6, l7, l8⟩ := r_lens hL
  have hul := al_lt hw hu
  have hvl := al_lt hw hv
  have h6 := hZ.2.2.2.2.2.2.1 u hu
  have h6v := hZ.2.2.2.2.2.2.1 v hv
  intro fuel
  induction fuel with
  | zero => intro k b h; omega
  | succ fuel ih =>
    intro k b h1 h2 h3
    rw [L_Md_go_69_s]
    refine xo_rd u rfl (by omega) (by omega) ?_
    rw [hZ.2.2.2.1 u hu]
    refine xo_le _ _ rfl rfl (by omega) (by omega) (fun q => ?_) (fun q => ?_)
    · refine xo_p ⟨rfl, ?_⟩
      rcases h3 with ⟨rfl, h4, h5⟩ | ⟨rfl, h4⟩ | ⟨rfl, -⟩
      · refine Or.inl ⟨rfl, rfl, fst_eq h4 (fun j q1 q2 hq1 hq2 => h5 j q1 q2 ?_ hq1 hq2)⟩
        have := (List.getElem?_eq_some_iff.mp hq1).1
        omega
      · exact Or.inr ⟨rfl, Or.inl h4⟩
      · exact Or.inr ⟨rfl, Or.inr rfl⟩
    · rcases h3 with ⟨rfl, h4, h5⟩ | ⟨rfl, h4⟩ | ⟨rfl, -⟩
      · rw [if_neg (by decide)]
        have hqa : (a_fl z u)[k]? = some (a_fl z u)[k] := List.getElem?_eq_getElem q
        have hqb : (a_fl z v)[k]? = some (a_fl z v)[k] := List.getElem?_eq_getElem (by omega)
        refine xo_rd u rfl (by omega) (by omega) ?_
        rw [hZ.2.2.2.2.1 u hu (ne_of_lt q), nI_add]
        refine xo_rd _ rfl (by omega) (by omega) ?_
        rw [(hZ.2.2.2.2.2.2.2.1 u k hu _ hqa).1]
        refine xo_rd v rfl (by omega) (by omega) ?_
        rw [hZ.2.2.2.2.1 v hv (ne_of_lt (k := k) (by omega)), nI_add]
        refine xo_rd _ rfl (by omega) (by omega) ?_
        rw [(hZ.2.2.2.2.2.2.2.1 v k hv _ hqb).1]
        refine xo_b (fun w c => c = 0 ∧ ((w = 1 ∧ (a_fl z u)[k].1 = (a_fl z v)[k].1) ∨ (w = 0 ∧ (a_fl z u)[k].1 ≠ (a_fl z v)[k].1))) (xo_if (fun e => xo_p ⟨rfl, Or.inl ⟨rfl, e⟩⟩) (fun e => xo_p ⟨rfl, Or.inr ⟨rfl, e⟩⟩)) (fun w c gw => ?_)
        obtain ⟨rfl, gw⟩ := gw
        rw [nI_1]
        rcases gw with ⟨rfl, e⟩ | ⟨rfl, e⟩
        · refine xo_m (ih (k + 1) 1 (by omega) (by omega) (Or.inl ⟨rfl, h4, fun j q1 q2 hj hq1 hq2 => ?_⟩)) (fun o c g => ⟨by have := g.1; omega, ?_⟩)
          · by_cases e2 : j = k
            · subst e2
              rw [hqa] at hq1
              rw [hqb] at hq2
              cases hq1
              cases hq2
              exact e
            · exact h5 j q1 q2 (by omega) hq1 hq2
          · exact g.2
        · have hne : (a_fl z u).map Prod.fst ≠ (a_fl z v).map Prod.fst := fun w => e (by
            have := congrArg (fun l => l[k]?) w
            simp only [List.getElem?_map, hqa, hqb, Option.map_some] at this
            exact Option.some.inj this)
          refine xo_m (ih (k + 1) 0 (by omega) (by omega) (Or.inr (Or.inl ⟨rfl, hne⟩))) (fun o c g => ⟨by have := g.1; omega, ?_⟩)
          rcases g.2 with ⟨-, w, -⟩ | ⟨w, -⟩
          · exact absurd w (by decide)
          · exact Or.inr ⟨w, Or.inl hne⟩
      · rw [if_pos rfl]
        exact xo_p ⟨rfl, Or.inr ⟨rfl, Or.inl h4⟩⟩
      · rw [if_pos rfl]
        exact xo_p ⟨rfl, Or.inr ⟨rfl, Or.inr rfl⟩⟩
theorem r_go {n : Nat} (hn : 100000 ≤ n) {m : S_Md} {z : AS} {st : Nat → Nat} (hL : RL m) (hZ : RZ m z st) (hw : a_wf z) (ht : a_t z ≤ 512) (hs : a_sum z ≤ 512) {u v : Nat} (hu : al z u) (hv : al z v) : xo (m_Md_go n m (nI u) (nI v)) (fun o c => c = 0 ∧ ((o = 1 ∧ a_go z u v) ∨ (o = 0 ∧ ¬ a_go z u v))) := by
  obtain ⟨l1, l2, l3, l4, l5, l6, l7, l8⟩ := r_lens hL
  have hul := al_lt hw hu
  have hvl := al_lt hw hv
  have h6 := hZ.2.2.2.2.2.2.1 u hu
  have h6v := hZ.2.2.2.2.2.2.1 v hv
  unfold m_Md_go
  refine xo_rd u rfl (by omega) (by omega) ?_
  refine xo_rd v rfl (by omega) (by omega) ?_
  rw [hZ.2.1 u (by omega), hZ.2.1 v (by omega)]
  refine xo_b (fun b c => c = 0 ∧ ((b = 1 ∧ a_kd z u = a_kd z v ∧ a_vl z u = a_vl z v ∧ (a_fl z u).length = (a_fl z v).length ∧ (a_kd z u = 4 → u = v)) ∨ (b = 0 ∧ ¬ a_go z u v))) ?_ (fun b c gb => ?_)
  · refine xo_if (fun e1 => ?_) (fun e1 => xo_p ⟨rfl, Or.inr ⟨rfl, fun w => e1 w.1⟩⟩)
    refine xo_rd u rfl (by omega) (by omega) ?_
    refine xo_rd v rfl (by omega) (by omega) ?_
    rw [hZ.2.2.1 u hu, hZ.2.2.1 v hv]
    refine xo_if (fun e2 => ?_) (fun e2 => xo_p ⟨rfl, Or.inr ⟨rfl, fun w => e2 w.2.1⟩⟩)
    refine xo_rd u rfl (by omega) (by omega) ?_
    refine xo_rd v rfl (by omega) (by omega) ?_
    rw [hZ.2.2.2.1 u hu, hZ.2.2.2.1 v hv]
    refine xo_eq _ _ rfl rfl (by omega) (by omega) (fun e3 => ?_) (fun e3 => xo_p ⟨rfl, Or.inr ⟨rfl, fun w => e3 (a_go_len w)⟩⟩)
    refine xo_rd u rfl (by omega) (by omega) ?_
    rw [hZ.2.1 u (by omega)]
    refine xo_if (fun e4 => ?_) (fun e4 => xo_p ⟨rfl, Or.inl ⟨rfl, e1, e2, e3, fun w => absurd w e4⟩⟩)
    exact xo_eq _ _ rfl rfl (by omega) (by omega) (fun e5 => xo_p ⟨rfl, Or.inl ⟨rfl, e1, e2, e3, fun _ => e5⟩⟩) (fun e5 => xo_p ⟨rfl, Or.inr ⟨rfl, fun w => e5 (w.2.2.2 e4)⟩⟩)
  · obtain ⟨rfl, gb⟩ := gb
    have hh := r_goL (n := n) hL hZ hw ht hs hu hv n 0 b (by omega) (Nat.zero_le _) (by
      rcases gb with ⟨w, -, -, w2, -⟩ | ⟨w, -⟩
      · exact Or.inl ⟨w, w2, fun j q q2 hj => by omega⟩
      · exact Or.inr (Or.inr ⟨w, rfl⟩))
    rw [← nI0] at hh
    refine xo_b _ hh (fun o c g => ?_)
    obtain ⟨rfl, g⟩ := g
    rcases g with ⟨e, eb, g⟩ | ⟨e, g⟩
    · rw [e]
      rcases gb with ⟨-, w1, w2, w3, w4⟩ | ⟨w, -⟩
      · exact xo_z (Or.inr rfl) (xo_p ⟨rfl, Or.inl ⟨rfl, w1, w2, g, w4⟩⟩)
      · rw [w] at eb; exact absurd eb (by decide)
    · rw [e]
      refine xo_z (Or.inl rfl) (xo_p ⟨rfl, Or.inr ⟨rfl, fun w => ?_⟩⟩)
      rcases g with g | g
      · exact g w.2.2.1
      · rcases gb with ⟨w2, -⟩ | ⟨-, w2⟩
        · rw [g] at w2; exact absurd w2 (by decide)
        · exact w2 w
