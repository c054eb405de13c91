/-! the reference follows -/
theorem or_01 {a b : Int32} (ha : a = 0 ∨ a = 1) (hb : b = 0 ∨ b = 1) : (a ||| b = 0 ∧ a = 0 ∧ b = 0) ∨ (a ||| b = 1 ∧ (a = 1 ∨ b = 1)) := by
  rcases ha with rfl | rfl <;> rcases hb with rfl | rfl
  · exact Or.inl ⟨by decide +kernel, rfl, rfl⟩
  · exact Or.inr ⟨by decide +kernel, Or.inr rfl⟩
  · exact Or.inr ⟨by decide +kernel, Or.inl rfl⟩
  · exact Or.inr ⟨by decide +kernel, Or.inl rfl⟩
/-- the parts of two records are joined, one by one -/
theorem r_partsL {n : Nat} (hn : 100000 ≤ n) {m : S_Md} {z : AS} {st : Nat → Nat} (hL : RL m) (hZ : RZ m z st) (hw : a_wf z) (ht : a_t z ≤ 512) (hs : a_sum z ≤ 512) {x y : Nat} (hx : al z x) (hy : al z y) {u d : Nat} (hu : al z u) (hd : al z d) (h3 : a_kd z u = 3) (hgo : a_go z u d) (hE : e_eq z x y u d) {sh : Ar} {R0 : Nat → Nat} : ∀ (fuel k : Nat) (s : S_Md) (R : Nat → Nat) (b : Int32), (a_fl z u).length - k < fuel → k ≤ (a_fl z u).length → TR m z R s → SR z x y R → R x = R y → Md_shown s = sh → ((b = 0 ∧ R = R0 ∧ ∀ (j : Nat) (q q2 : Int32 × Nat), j < k → (a_fl z u)[j]? = some q → (a_fl z d)[j]? = some q2 → R q.2 = R q2.2) ∨ (b = 1 ∧ cR z R < cR z R0)) → xo (L_Md_follow_113 (nI u) (nI d) n fuel b (nI k) s) (fun o c => c = 0 ∧ ∃ R2, TR m z R2 o.2.2 ∧ SR z x y R2 ∧ R2 x = R2 y ∧ Md_shown o.2.2 = sh ∧ ((o.1 = 0 ∧ R2 = R0 ∧ ∀ (j : Nat) (q q2 : Int32 × Nat), (a_fl z u)[j]? = some q → (a_fl z d)[j]? = some q2 → R2 q.2 = R2 q2.2) ∨ (o.1 = 1 ∧ cR z R2 < cR z R0))) := by
  have hul := al_lt hw hu
  have hdl := al_lt hw hd
  have h6 := hZ.2.2.2.2.2.2.1 u hu
  have h6d := hZ.2.2.2.2.2.2.1 d hd
  have hlen := a_go_len hgo
  have E := (e_self (z := z) (x := x) (y := y))
  intro fuel
  induction fuel with
  | zero => intro k s R b h; omega
  | succ fuel ih =>
    intro k s R b h1 h2 hT hS hxy hsh hb
    have hLs := TR_L hT hL
    have hZs := TR_Z hT hZ
    obtain ⟨l1, l2, l3, l4, l5, l6, l7, l8⟩ := r_lens hLs
    rw [L_Md_follow_113_s]
    refine xo_rd u rfl (by omega) (by omega) ?_
    rw [hZs.2.2.2.1 u hu]
    refine xo_le _ _ rfl rfl (by omega) (by omega) (fun q => ?_) (fun q => ?_)
    · refine xo_p ⟨rfl, R, hT, hS, hxy, hsh, ?_⟩
      rcases hb with ⟨w1, w2, w3⟩ | w
      · exact Or.inl ⟨w1, w2, fun j q1 q2 hq1 hq2 => w3 j q1 q2 (by have := (List.getElem?_eq_some_iff.mp hq1).1; omega) hq1 hq2⟩
      · exact Or.inr w
    · have hqa : (a_fl z u)[k]? = some (a_fl z u)[k] := List.getElem?_eq_getElem q
      have hqb : (a_fl z d)[k]? = some (a_fl z d)[k] := List.getElem?_eq_getElem (by omega)
      generalize (a_fl z u)[k] = qa at hqa
      generalize (a_fl z d)[k]'(by omega) = qb at hqb
      refine xo_rd u rfl (by omega) (by omega) ?_
      rw [hZs.2.2.2.2.1 u hu (ne_of_lt q), nI_add]
      refine xo_rd _ rfl (by omega) (by omega) ?_
      rw [(hZs.2.2.2.2.2.2.2.1 u k hu _ hqa).2]
      refine xo_rd d rfl (by omega) (by omega) ?_
      rw [hZs.2.2.2.2.1 d hd (ne_of_lt (k := k) (by omega)), nI_add]
      refine xo_rd _ rfl (by omega) (by omega) ?_
      rw [(hZs.2.2.2.2.2.2.2.1 d k hd _ hqb).2]
      have hal1 := (hw.2.2.2.2.1 u hu).2.2 qa (List.mem_of_getElem? hqa)
      have hal2 := (hw.2.2.2.2.1 d hd).2.2 qb (List.mem_of_getElem? hqb)
      refine xo_b _ (r_join (n := n) hn hL hZ hw ht (fun i => (hS.s2 i).1) hT hal1 hal2) (fun o c g => ?_)
      obtain ⟨rfl, g1, g2, g3⟩ := g
      have hS2 := SR_join hw hx hy hS hal1 hal2 (E.2.2.2 u d k qa qb hu hd h3 hE hgo hqa hqb)
      have ho : o.1 = 0 ∨ o.1 = 1 := g3.imp (fun w => w.1) (fun w => w.1)
      have hbb : b = 0 ∨ b = 1 := hb.imp (fun w => w.1) (fun w => w.1)
      rw [nI_1]
      refine xo_m (ih (k + 1) o.2 (jR R (R qa.2) (R qb.2)) (b ||| o.1) (by omega) (by omega) g1 hS2 (jR_old hxy) (g2.trans hsh) ?_) (fun o c g => ⟨by have := g.1; omega, g.2⟩)
      have cle : cR z (jR R (R qa.2) (R qb.2)) ≤ cR z R := by
        rcases g3 with ⟨-, w⟩ | ⟨-, w⟩
        · rw [w, jR_same]; exact Nat.le_refl _
        · have := cR_join hw (SR_al hw hx hy hS hal1) (SR_al hw hx hy hS hal2) (hS.s2 _).2 (hS.s2 _).2 w
          omega
      rcases or_01 hbb ho with ⟨e, e1, e2⟩ | ⟨e, e1⟩
      · rw [e]
        rcases hb with ⟨-, w2, w3⟩ | ⟨w, -⟩
        · rcases g3 with ⟨-, w⟩ | ⟨w, -⟩
          · refine Or.inl ⟨rfl, by rw [w, jR_same, w2], fun j q1 q2 hj hq1 hq2 => ?_⟩
            rw [w, jR_same]
            by_cases e4 : j = k
            · subst e4
              rw [hqa] at hq1
              rw [hqb] at hq2
              cases hq1
              cases hq2
              exact w
            · exact w3 j q1 q2 (by omega) hq1 hq2
          · rw [w] at e2; exact absurd e2 (by decide)
        · rw [w] at e1; exact absurd e1 (by decide)
      · rw [e]
        refine Or.inr ⟨rfl, ?_⟩
        rcases hb with ⟨w1, w2, -⟩ | ⟨-, w⟩
        · rcases g3 with ⟨w, -⟩ | ⟨-, w⟩
          · rcases e1 with e1 | e1
            · rw [w1] at e1; exact absurd e1 (by decide)
            · rw [w] at e1; exact absurd e1 (by decide)
          · have := cR_join hw (SR_al hw hx hy hS hal1) (SR_al hw hx hy hS hal2) (hS.s2 _).2 (hS.s2 _).2 w
            rw [← w2]
            omega
        · omega
theorem r_shownL {n : Nat} {m : S_Md} {z : AS} {st : Nat → Nat} (hZ : RZ m z st) (ht : a_t z ≤ 512) {R : Nat → Nat} {tr : Nat → Int32} (hR : ∀ i, al z i → tr i = nI (R i)) (y : Int32) : ∀ (fuel i : Nat) (s : S_Md) (sh : Nat → Int32), a_t z - i < fuel → i ≤ a_t z → s = Md_set_TS m (32768, tr) (32768, sh) → (∀ j, j < i → sh j = -1) → xo (L_Md_follow_10 y n fuel (nI i) s) (fun o c => c = 0 ∧ TR m z R o.2 ∧ ∀ j, j < a_t z → (Md_shown o.2).2 j = -1) := by
  intro fuel
  induction fuel with
  | zero => intro i s sh h; omega
  | succ fuel ih =>
    intro i s sh h1 h2 es h3
    subst es
    rw [L_Md_follow_10_s]
    refine xo_le (a_t z) i hZ.1.1 rfl (by omega) (by omega) (fun q => ?_) (fun q => ?_)
    · exact xo_p ⟨rfl, ⟨tr, sh, rfl, hR⟩, fun j hj => h3 j (by omega)⟩
    · refine xo_wr i rfl (by show i < 32768; omega) (by omega) ?_
      rw [nI_1]
      refine ih (i + 1) _ (upd sh i (-1)) (by omega) (by omega) rfl (fun j hj => ?_)
      rw [upd_at]
      by_cases e : j = i
      · rw [if_pos e]
      · rw [if_neg e]; exact h3 j (by omega)
/-- what has been seen below i -/
def FW (z : AS) (R : Nat → Nat) (sh : Nat → Int32) (i : Nat) : Prop :=
  (∀ c, c < a_t z → (sh c = -1 ∧ ∀ j, j < i → al z j → a_kd z j ≠ 0 → R j ≠ c) ∨ ∃ d, sh c = nI d ∧ al z d ∧ a_kd z d ≠ 0 ∧ R d = c) ∧
  (∀ j, j < i → al z j → a_kd z j ≠ 0 → ∃ d, sh (R j) = nI d ∧ al z d ∧ a_go z d j ∧ (a_kd z j = 3 → ∀ (k : Nat) (q q2 : Int32 × Nat), (a_fl z j)[k]? = some q → (a_fl z d)[k]? = some q2 → R q.2 = R q2.2))
theorem FW_clo {z : AS} (hw : a_wf z) (ht : a_t z ≤ 512) {R : Nat → Nat} {sh : Nat → Int32} (h : FW z R sh (a_t z)) : CLO z R := by
  intro i j hi hj hi0 hj0 hij
  obtain ⟨d, e1, d1, g1, p1⟩ := h.2 i (al_lt hw hi) hi hi0
  obtain ⟨d2, e2, d3, g2, p2⟩ := h.2 j (al_lt hw hj) hj hj0
  rw [← hij, e1] at e2
  have l1 := al_lt hw d1
  have l2 := al_lt hw d3
  have ed := (nI_eq (by omega) (by omega)).mp e2
  subst ed
  have hg := a_go_trans (a_go_symm g1) g2
  refine ⟨hg, fun k q q2 hq hq2 => ?_⟩
  rcases hw.2.1 i hi with w | w | w | w | w
  · exact absurd w hi0
  · rw [(hw.2.2.2.2.1 i hi).1 (Or.inr (Or.inl w))] at hq; simp at hq
  · rw [(hw.2.2.2.2.1 i hi).1 (Or.inr (Or.inr w))] at hq; simp at hq
  · obtain ⟨qd, hd, -⟩ := a_go_at (a_go_symm g1) hq
    rw [p1 w k q qd hq hd, p2 (hg.1.symm.trans w) k q2 qd hq2 hd]
  · have := hg.2.2.2 w
    subst this
    rw [hq] at hq2
    cases hq2
    rfl
theorem r_scanL {n : Nat} (hn : 100000 ≤ n) {m : S_Md} {z : AS} {st : Nat → Nat} (hL : RL m) (hZ : RZ m z st) (hw : a_wf z) (ht : a_t z ≤ 512) (hs : a_sum z ≤ 512) {x y : Nat} (hx : al z x) (hy : al z y) {R : Nat → Nat} (hS : SR z x y R) (hxy : R x = R y) : ∀ (fuel i : Nat) (s : S_Md), a_t z - i < fuel → i ≤ a_t z → TR m z R s → FW z R (Md_shown s).2 i → xo (L_Md_follow_33 n fuel 0 (nI i) s) (fun o c => c = 0 ∧ ((∃ e s2, o = .inl (0, e, s2) ∧ TR m z R s2 ∧ CLO z R) ∨ (∃ e s2 R2, o = .inl (1, e, s2) ∧ TR m z R2 s2 ∧ SR z x y R2 ∧ R2 x = R2 y ∧ cR z R2 < cR z R) ∨ (∃ s2, o = .inr (0, s2) ∧ TR m z R s2 ∧ e_bad z x y))) := by
  have E := (e_self (z := z) (x := x) (y := y))
  intro fuel
  induction fuel with
  | zero => intro i s h; omega
  | succ fuel ih =>
    intro i s h1 h2 hT hW
    have hLs := TR_L hT hL
    have hZs := TR_Z hT hZ
    obtain ⟨l1, l2, l3, l4, l5, l6, l7, l8⟩ := r_lens hLs
    have lt := hLs.1.2.2.2.2.2.2.2.1
    have ls := hLs.1.2.2.2.2.2.2.2.2
    rw [L_Md_follow_33_s]
    refine xo_le (a_t z) i hZs.1.1 rfl (by omega) (by omega) (fun q => ?_) (fun q => ?_)
    · have : i = a_t z := by omega
      subst this
      exact xo_p ⟨rfl, Or.inl ⟨_, s, rfl, hT, FW_clo hw ht hW⟩⟩
    · have skip : ¬ (al z i ∧ a_kd z i ≠ 0) → xo (L_Md_follow_33 n fuel 0 (nI i + 1) s) (fun o c => c = 0 ∧ ((∃ e s2, o = .inl (0, e, s2) ∧ TR m z R s2 ∧ CLO z R) ∨ (∃ e s2 R2, o = .inl (1, e, s2) ∧ TR m z R2 s2 ∧ SR z x y R2 ∧ R2 x = R2 y ∧ cR z R2 < cR z R) ∨ (∃ s2, o = .inr (0, s2) ∧ TR m z R s2 ∧ e_bad z x y))) := fun hno => by
        rw [nI_1]
        refine ih (i + 1) s (by omega) (by omega) hT ⟨fun c hc => ?_, fun j hj ha h0 => ?_⟩
        · refine (hW.1 c hc).imp (fun w => ⟨w.1, fun j hj ha h0 => ?_⟩) id
          by_cases e : j = i
          · subst e; exact absurd ⟨ha, h0⟩ hno
          · exact w.2 j (by omega) ha h0
        · by_cases e : j = i
          · subst e; exact absurd ⟨ha, h0⟩ hno
          · exact hW.2 j (by omega) ha h0
      refine xo_rd i rfl (by omega) (by omega) ?_
      rw [hZs.2.1 i (by omega)]
      refine xo_if (fun e => skip (fun w => w.1 e)) (fun e => ?_)
      have hi : al z i := e
      refine xo_rd i rfl (by omega) (by omega) ?_
      rw [hZs.2.1 i (by omega)]
      refine xo_if (fun e => skip (fun w => w.2 e)) (fun hi0 => ?_)
      have hRi := (hS.s2 i).1
      refine xo_rd i rfl (by omega) (by omega) ?_
      rw [TR_at hT hi]
      refine xo_rd (R i) rfl (by omega) (by omega) ?_
      rcases hW.1 (R i) (by omega) with ⟨w1, w2⟩ | ⟨d, w1, d1, d2, d3⟩
      · rw [w1, if_pos rfl]
        refine xo_rd i rfl (by omega) (by omega) ?_
        rw [TR_at hT hi]
        refine xo_wr (R i) rfl (by omega) (by omega) ?_
        rw [if_pos rfl, nI_1]
        obtain ⟨tr, sh, es, htr⟩ := hT
        have hW' : FW z R sh i := by rw [es] at hW; exact hW
        have w1' : sh (R i) = -1 := by rw [es] at w1; exact w1
        subst es
        refine ih (i + 1) _ (by omega) (by omega) ⟨tr, upd sh (R i) (nI i), rfl, htr⟩ ⟨fun c hc => ?_, fun j hj ha h0 => ?_⟩
        · show (upd sh (R i) (nI i) c = -1 ∧ _) ∨ ∃ d, upd sh (R i) (nI i) c = nI d ∧ _
          rw [upd_at]
          by_cases e5 : c = R i
          · rw [if_pos e5]
            exact Or.inr ⟨i, rfl, hi, hi0, e5.symm⟩
          · rw [if_neg e5]
            refine (hW'.1 c hc).imp (fun w => ⟨w.1, fun j hj ha h0 => ?_⟩) id
            by_cases e : j = i
            · subst e; exact fun q => e5 q.symm
            · exact w.2 j (by omega) ha h0
        · show ∃ d, upd sh (R i) (nI i) (R j) = nI d ∧ _
          rw [upd_at]
          by_cases e : j = i
          · subst e
            rw [if_pos rfl]
            refine ⟨j, rfl, hi, a_go_refl z j, fun _ k q1 q2 hq1 hq2 => ?_⟩
            rw [hq1] at hq2
            cases hq2
            rfl
          · rw [if_neg (w2 j (by omega) ha h0)]
            exact hW'.2 j (by omega) ha h0
      · have hdl := al_lt hw d1
        rw [w1, if_neg (nI_m1 (by omega))]
        have hE : e_eq z x y i d := E.1.2.2 _ _ _ (hS.s1 i) (by rw [← d3]; exact E.1.2.1 _ _ (hS.s1 d))
        refine xo_b _ (r_go hn hLs hZs hw ht hs d1 hi) (fun o c g => ?_)
        obtain ⟨rfl, g⟩ := g
        rcases g with ⟨rfl, hgo⟩ | ⟨rfl, hgo⟩
        · rw [if_neg (by decide)]
          refine xo_rd i rfl (by omega) (by omega) ?_
          rw [hZs.2.1 i (by omega)]
          have next : ∀ s2, TR m z R s2 → Md_shown s2 = Md_shown s → (a_kd z i = 3 → ∀ (k : Nat) (q q2 : Int32 × Nat), (a_fl z i)[k]? = some q → (a_fl z d)[k]? = some q2 → R q.2 = R q2.2) → FW z R (Md_shown s2).2 (i + 1) := fun s2 hT2 hsh hp => by
            rw [hsh]
            refine ⟨fun c hc => ?_, fun j hj ha h0 => ?_⟩
            · by_cases e5 : c = R i
              · exact Or.inr ⟨d, by rw [e5]; exact w1, d1, d2, by rw [e5]; exact d3⟩
              · refine (hW.1 c hc).imp (fun w => ⟨w.1, fun j hj ha h0 => ?_⟩) id
                by_cases e : j = i
                · subst e; exact fun q => e5 q.symm
                · exact w.2 j (by omega) ha h0
            · by_cases e : j = i
              · subst e; exact ⟨d, w1, d1, hgo, hp⟩
              · exact hW.2 j (by omega) ha h0
          refine xo_if (fun h3 => ?_) (fun h3 => ?_)
          · have hh := r_partsL (n := n) hn hL hZ hw ht hs hx hy hi d1 h3 (a_go_symm hgo) hE (R0 := R) (sh := Md_shown s) n 0 s R 0 (by have := hZs.2.2.2.2.2.2.1 i hi; omega) (Nat.zero_le _) hT hS hxy rfl (Or.inl ⟨rfl, rfl, fun j q1 q2 hj => by omega⟩)
            rw [← nI0] at hh
            refine xo_b _ hh (fun o c g => ?_)
            obtain ⟨rfl, R2, k1, k2, k3, k4, k5⟩ := g
            rcases k5 with ⟨e1, e2, e3⟩ | ⟨e1, e2⟩
            · rw [e1, if_pos rfl, nI_1]
              rw [e2] at k1 e3
              refine xo_m (ih (i + 1) o.2.2 (by omega) (by omega) k1 (next _ k1 k4 (fun _ => e3))) (fun o c g => ⟨by have := g.1; omega, g.2⟩)
            · rw [e1, if_neg (by decide)]
              exact xo_p ⟨rfl, Or.inr (Or.inl ⟨_, _, R2, rfl, k1, k2, k3, e2⟩)⟩
          · rw [if_pos rfl, nI_1]
            refine xo_m (ih (i + 1) s (by omega) (by omega) hT (next _ hT rfl (fun w => absurd w h3))) (fun o c g => ⟨by have := g.1; omega, g.2⟩)
        · rw [if_pos rfl]
          exact xo_p ⟨rfl, Or.inr (Or.inr ⟨s, rfl, hT, ⟨d, i, d1, hi, d2, hi0, E.1.2.1 _ _ hE, hgo⟩⟩)⟩
theorem r_followL {n : Nat} (hn : 100000 ≤ n) {m : S_Md} {z : AS} {st : Nat → Nat} (hL : RL m) (hZ : RZ m z st) (hw : a_wf z) (ht : a_t z ≤ 512) (hs : a_sum z ≤ 512) {x y : Nat} (hx : al z x) (hy : al z y) : ∀ (fuel : Nat) (s : S_Md) (R : Nat → Nat) (b : Int32), cR z R + 2 ≤ fuel → TR m z R s → SR z x y R → R x = R y → (b = 1 ∨ (b = 0 ∧ CLO z R)) → xo (L_Md_follow_2 n fuel b s) (fun o c => c = 0 ∧ ((∃ e s2 R2, o = .inl (e, s2) ∧ TR m z R2 s2 ∧ e_min z x y R2 ∧ ¬ e_bad z x y) ∨ (∃ s2 R2, o = .inr (0, s2) ∧ TR m z R2 s2 ∧ e_bad z x y))) := by
  intro fuel
  induction fuel with
  | zero => intro s R b h; omega
  | succ fuel ih =>
    intro s R b h1 hT hS hxy hb
    rw [L_Md_follow_2_s]
    rcases hb with rfl | ⟨rfl, hC⟩
    · rw [if_neg (by decide)]
      obtain ⟨tr, sh, es, htr⟩ := hT
      have h10 := r_shownL (n := n) hZ ht htr 0 n 0 s sh (by omega) (Nat.zero_le _) es (fun j hj => by omega)
      rw [← nI0] at h10
      refine xo_b _ h10 (fun o1 c1 g => ?_)
      obtain ⟨rfl, g1, g2⟩ := g
      have h33 := r_scanL (n := n) hn hL hZ hw ht hs hx hy hS hxy n 0 o1.2 (by omega) (Nat.zero_le _) g1 ⟨fun c hc => Or.inl ⟨g2 c hc, fun j hj => by omega⟩, fun j hj => by omega⟩
      rw [← nI0] at h33
      refine xo_b _ h33 (fun o2 c2 g => ?_)
      obtain ⟨rfl, g⟩ := g
      rcases g with ⟨e, s2, rfl, k1, k2⟩ | ⟨e, s2, R2, rfl, k1, k2, k3, k4⟩ | ⟨s2, rfl, k1, k2⟩
      · refine xo_elim (fun a ha => ?_) (fun b hb => absurd hb (by simp))
        cases ha
        obtain ⟨f, rfl⟩ : ∃ f, fuel = f + 1 := ⟨fuel - 1, by omega⟩
        have hd := SR_done hS hxy k2
        rw [L_Md_follow_2_s, if_pos rfl]
        exact xo_p ⟨rfl, Or.inl ⟨_, s2, R, rfl, k1, hd⟩⟩
      · refine xo_elim (fun a ha => ?_) (fun b hb => absurd hb (by simp))
        cases ha
        exact xo_m (ih s2 R2 1 (by omega) k1 k2 k3 (Or.inl rfl)) (fun o c g => ⟨by have := g.1; omega, g.2⟩)
      · refine xo_elim (fun a ha => absurd ha (by simp)) (fun b hb => ?_)
        cases hb
        exact xo_p ⟨rfl, Or.inr ⟨s2, R, rfl, k1, k2⟩⟩
    · rw [if_pos rfl]
      exact xo_p ⟨rfl, Or.inl ⟨_, s, R, rfl, hT, SR_done hS hxy hC⟩⟩
theorem r_suppose {n : Nat} (hn : 100000 ≤ n) {m : S_Md} {z : AS} {st : Nat → Nat} (hL : RL m) (hZ : RZ m z st) (hw : a_wf z) (ht : a_t z ≤ 512) (hs : a_sum z ≤ 512) {x y : Nat} (hx : al z x) (hy : al z y) : xo (m_Md_suppose n m (nI x) (nI y)) (fun o c => c = 0 ∧ ∃ R, TR m z R o.2 ∧ ((o.1 = 0 ∧ e_bad z x y) ∨ (o.1 = 1 ∧ ¬ e_bad z x y ∧ e_min z x y R))) := by
  have lt := hL.1.2.2.2.2.2.2.2.1
  have ls := hL.1.2.2.2.2.2.2.2.2
  have l6 := hL.1.2.2.2.2.2.2.1
  have E := (e_self (z := z) (x := x) (y := y))
  unfold m_Md_suppose
  refine xo_cp 0 0 (a_t z) nI0 nI0 hZ.1.1 (by omega) (by omega) (by omega) (by omega) ?_
  have hT : TR m z (a_ld z) (Md_set_trial m ((Md_trial m).1, va_cpy (Md_leaders m).2 (Md_trial m).2 0 0 (a_t z))) := by
    refine ⟨va_cpy (Md_leaders m).2 (Md_trial m).2 0 0 (a_t z), (Md_shown m).2, ?_, fun i hi => ?_⟩
    · have a1 : ((32768, (Md_shown m).2) : Ar) = Md_shown m := by rw [← ls]
      rw [a1, lt]
    · have := al_lt hw hi
      rw [pk_cpy_in (by omega) (by omega), Nat.zero_add, Nat.sub_zero]
      exact hZ.2.2.2.2.2.1 i hi
  have hS : SR z x y (a_ld z) := by
    refine ⟨fun i => ?_, fun i => ?_, fun i hi => (hw.2.2.1 i hi).2.2, fun i hi => (hw.2.2.2.1 i hi).1⟩
    · by_cases hi : al z i
      · exact E.2.1 i hi
      · rw [(hw.2.2.2.1 i hi).1]; exact E.1.1 i
    · by_cases hi : al z i
      · exact ⟨(hw.2.2.1 i hi).1, (hw.2.2.1 i hi).2.2⟩
      · rw [(hw.2.2.2.1 i hi).1]; exact ⟨Nat.le_refl _, (hw.2.2.2.1 i hi).1⟩
  have hC : CLO z (a_ld z) := fun i j hi hj hi0 hj0 hij => by
    obtain ⟨g1, g2⟩ := hw.2.2.2.2.2.2.1 i j hi hj hi0 hj0 hij
    refine ⟨g1, fun m q q2 hq hq2 => ?_⟩
    have := congrArg (fun l => l[m]?) g2
    simp only [List.getElem?_map, hq, hq2, Option.map_some] at this
    exact Option.some.inj this
  refine xo_b _ (r_join (n := n) hn hL hZ hw ht (fun i => (hS.s2 i).1) hT hx hy) (fun o c g => ?_)
  obtain ⟨rfl, g1, -, g3⟩ := g
  rcases g3 with ⟨e, g3⟩ | ⟨e, g3⟩
  · rw [e, if_pos rfl]
    rw [g3, jR_same] at g1
    have hd := SR_done hS g3 hC
    exact xo_p ⟨rfl, _, g1, Or.inr ⟨rfl, hd.2, hd.1⟩⟩
  · rw [e, if_neg (by decide)]
    have hS2 := SR_join hw hx hy hS hx hy E.2.2.1
    have hxy : jR (a_ld z) (a_ld z x) (a_ld z y) x = jR (a_ld z) (a_ld z x) (a_ld z y) y := by
      unfold jR
      rw [if_pos (Or.inl rfl), if_pos (Or.inr rfl)]
    have hc := cnt_le (fun r => pb (al z r ∧ jR (a_ld z) (a_ld z x) (a_ld z y) r = r)) (a_t z)
    unfold m_Md_follow
    refine xo_b (fun o c => c = 0 ∧ ∃ R, TR m z R o.2 ∧ ((o.1 = 0 ∧ e_bad z x y) ∨ (o.1 = 1 ∧ ¬ e_bad z x y ∧ e_min z x y R))) (xo_b _ (r_followL (n := n) hn hL hZ hw ht hs hx hy n o.2 _ 1 (by unfold cR; omega) g1 hS2 hxy (Or.inl rfl)) (fun o2 c2 g => ?_)) (fun o2 c2 g => ?_)
    · obtain ⟨rfl, g⟩ := g
      rcases g with ⟨e2, s2, R2, rfl, k1, k2, k3⟩ | ⟨s2, R2, rfl, k1, k2⟩
      · exact xo_p ⟨rfl, R2, k1, Or.inr ⟨rfl, k3, k2⟩⟩
      · exact xo_p ⟨rfl, R2, k1, Or.inl ⟨rfl, k2⟩⟩
    · obtain ⟨rfl, R2, k1, k2⟩ := g
      rcases k2 with ⟨e2, k2⟩ | ⟨e2, k2⟩
      · rw [e2, if_pos rfl]; exact xo_p ⟨rfl, R2, k1, Or.inl ⟨rfl, k2⟩⟩
      · rw [e2, if_neg (by decide)]; exact xo_p ⟨rfl, R2, k1, Or.inr ⟨rfl, k2⟩⟩
