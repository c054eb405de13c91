/-! the reference packs its fields -/
theorem layf_out2 {f : Nat → Int32} {u : Nat} {l : List Int32} {j : Nat} (h : u + l.length ≤ j) : layf f u l j = f j := by
  unfold layf
  rw [if_neg (by omega)]
/-- what pack needs: those that stay (K), their fields L, where they stood (ob) -/
def PH (m : S_Md) (t S : Nat) (K : Nat → Bool) (L : Nat → List (Int32 × Nat)) (ob : Nat → Nat) : Prop :=
  (t ≤ 512) ∧
  (S ≤ 512) ∧
  ((Md_kinds m).1 = 32768) ∧
  ((Md_manies m).1 = 32768) ∧
  ((Md_leaders m).1 = 32768) ∧
  (Md_end m = nI t) ∧
  (Md_fields m = nI S) ∧
  (∀ j, K j = true → j < t) ∧
  (∀ j, j < t → ((Md_kinds m).2 j < 3 → L j = []) ∧ (¬ (Md_kinds m).2 j < 3 → K j = true)) ∧
  (∀ j, K j = true → (Md_manies m).2 j = nI (L j).length) ∧
  (∀ j, K j = true → ob j + (L j).length ≤ S) ∧
  (∀ i j, K i = true → K j = true → i ≠ j → ob i + (L i).length ≤ ob j ∨ ob j + (L j).length ≤ ob i) ∧
  (∀ (j k : Nat) (q : Int32 × Nat), K j = true → (L j)[k]? = some q → (Md_features m).2 (ob j + k) = q.1 ∧ ∃ p, (Md_parts m).2 (ob j + k) = nI p ∧ p < 32768 ∧ (Md_leaders m).2 p = nI q.2) ∧
  (∀ j, ¬ K j = true → L j = [])
theorem PH.ht {m : S_Md} {t S : Nat} {K : Nat → Bool} {L : Nat → List (Int32 × Nat)} {ob : Nat → Nat} (H : PH m t S K L ob) : t ≤ 512 := H.1
theorem PH.hS {m : S_Md} {t S : Nat} {K : Nat → Bool} {L : Nat → List (Int32 × Nat)} {ob : Nat → Nat} (H : PH m t S K L ob) : S ≤ 512 := H.2.1
theorem PH.l1 {m : S_Md} {t S : Nat} {K : Nat → Bool} {L : Nat → List (Int32 × Nat)} {ob : Nat → Nat} (H : PH m t S K L ob) : (Md_kinds m).1 = 32768 := H.2.2.1
theorem PH.l2 {m : S_Md} {t S : Nat} {K : Nat → Bool} {L : Nat → List (Int32 × Nat)} {ob : Nat → Nat} (H : PH m t S K L ob) : (Md_manies m).1 = 32768 := H.2.2.2.1
theorem PH.l3 {m : S_Md} {t S : Nat} {K : Nat → Bool} {L : Nat → List (Int32 × Nat)} {ob : Nat → Nat} (H : PH m t S K L ob) : (Md_leaders m).1 = 32768 := H.2.2.2.2.1
theorem PH.hE {m : S_Md} {t S : Nat} {K : Nat → Bool} {L : Nat → List (Int32 × Nat)} {ob : Nat → Nat} (H : PH m t S K L ob) : Md_end m = nI t := H.2.2.2.2.2.1
theorem PH.hF {m : S_Md} {t S : Nat} {K : Nat → Bool} {L : Nat → List (Int32 × Nat)} {ob : Nat → Nat} (H : PH m t S K L ob) : Md_fields m = nI S := H.2.2.2.2.2.2.1
theorem PH.hK {m : S_Md} {t S : Nat} {K : Nat → Bool} {L : Nat → List (Int32 × Nat)} {ob : Nat → Nat} (H : PH m t S K L ob) : ∀ j, K j = true → j < t := H.2.2.2.2.2.2.2.1
theorem PH.kd {m : S_Md} {t S : Nat} {K : Nat → Bool} {L : Nat → List (Int32 × Nat)} {ob : Nat → Nat} (H : PH m t S K L ob) : ∀ j, j < t → ((Md_kinds m).2 j < 3 → L j = []) ∧ (¬ (Md_kinds m).2 j < 3 → K j = true) := H.2.2.2.2.2.2.2.2.1
theorem PH.mn {m : S_Md} {t S : Nat} {K : Nat → Bool} {L : Nat → List (Int32 × Nat)} {ob : Nat → Nat} (H : PH m t S K L ob) : ∀ j, K j = true → (Md_manies m).2 j = nI (L j).length := H.2.2.2.2.2.2.2.2.2.1
theorem PH.o1 {m : S_Md} {t S : Nat} {K : Nat → Bool} {L : Nat → List (Int32 × Nat)} {ob : Nat → Nat} (H : PH m t S K L ob) : ∀ j, K j = true → ob j + (L j).length ≤ S := H.2.2.2.2.2.2.2.2.2.2.1
theorem PH.o2 {m : S_Md} {t S : Nat} {K : Nat → Bool} {L : Nat → List (Int32 × Nat)} {ob : Nat → Nat} (H : PH m t S K L ob) : ∀ i j, K i = true → K j = true → i ≠ j → ob i + (L i).length ≤ ob j ∨ ob j + (L j).length ≤ ob i := H.2.2.2.2.2.2.2.2.2.2.2.1
theorem PH.o3 {m : S_Md} {t S : Nat} {K : Nat → Bool} {L : Nat → List (Int32 × Nat)} {ob : Nat → Nat} (H : PH m t S K L ob) : ∀ (j k : Nat) (q : Int32 × Nat), K j = true → (L j)[k]? = some q → (Md_features m).2 (ob j + k) = q.1 ∧ ∃ p, (Md_parts m).2 (ob j + k) = nI p ∧ p < 32768 ∧ (Md_leaders m).2 p = nI q.2 := H.2.2.2.2.2.2.2.2.2.2.2.2.1
theorem PH.oL {m : S_Md} {t S : Nat} {K : Nat → Bool} {L : Nat → List (Int32 × Nat)} {ob : Nat → Nat} (H : PH m t S K L ob) : ∀ j, ¬ K j = true → L j = [] := H.2.2.2.2.2.2.2.2.2.2.2.2.2
/-- how far it is -/
def PK (m : S_Md) (t S : Nat) (K : Nat → Bool) (L : Nat → List (Int32 × Nat)) (ob : Nat → Nat) (u v : Nat) (fc : Nat → Nat) (fi fe pa : Nat → Int32) (s : S_Md) : Prop :=
  (s = Md_set_PK m (32768, fi) (65536, fe) (65536, pa)) ∧
  (∀ j, K j = true → L j ≠ [] → fi j = nI (fc j)) ∧
  (∀ j, K j = true → L j ≠ [] → v ≤ ob j → fc j = ob j) ∧
  (∀ j, K j = true → L j ≠ [] → ob j < v → fc j + (L j).length ≤ u ∧ ob j + (L j).length ≤ v ∧ ∀ (k : Nat) (q : Int32 × Nat), (L j)[k]? = some q → fe (fc j + k) = q.1 ∧ pa (fc j + k) = nI q.2) ∧
  (∀ i j, K i = true → L i ≠ [] → ob i < v → K j = true → L j ≠ [] → ob j < v → i ≠ j → fc i + (L i).length ≤ fc j ∨ fc j + (L j).length ≤ fc i) ∧
  (∀ x, v ≤ x → fe x = (Md_features m).2 x ∧ pa x = (Md_parts m).2 x) ∧
  (u ≤ v ∧ v ≤ S) ∧
  (u = sumf (fun j => if pb (K j = true ∧ ob j < v) then (L j).length else 0) t)
theorem PK.es {m : S_Md} {t S : Nat} {K : Nat → Bool} {L : Nat → List (Int32 × Nat)} {ob : Nat → Nat} {u v : Nat} {fc : Nat → Nat} {fi fe pa : Nat → Int32} {s : S_Md} (H : PK m t S K L ob u v fc fi fe pa s) : s = Md_set_PK m (32768, fi) (65536, fe) (65536, pa) := H.1
theorem PK.a {m : S_Md} {t S : Nat} {K : Nat → Bool} {L : Nat → List (Int32 × Nat)} {ob : Nat → Nat} {u v : Nat} {fc : Nat → Nat} {fi fe pa : Nat → Int32} {s : S_Md} (H : PK m t S K L ob u v fc fi fe pa s) : ∀ j, K j = true → L j ≠ [] → fi j = nI (fc j) := H.2.1
theorem PK.b {m : S_Md} {t S : Nat} {K : Nat → Bool} {L : Nat → List (Int32 × Nat)} {ob : Nat → Nat} {u v : Nat} {fc : Nat → Nat} {fi fe pa : Nat → Int32} {s : S_Md} (H : PK m t S K L ob u v fc fi fe pa s) : ∀ j, K j = true → L j ≠ [] → v ≤ ob j → fc j = ob j := H.2.2.1
theorem PK.c {m : S_Md} {t S : Nat} {K : Nat → Bool} {L : Nat → List (Int32 × Nat)} {ob : Nat → Nat} {u v : Nat} {fc : Nat → Nat} {fi fe pa : Nat → Int32} {s : S_Md} (H : PK m t S K L ob u v fc fi fe pa s) : ∀ j, K j = true → L j ≠ [] → ob j < v → fc j + (L j).length ≤ u ∧ ob j + (L j).length ≤ v ∧ ∀ (k : Nat) (q : Int32 × Nat), (L j)[k]? = some q → fe (fc j + k) = q.1 ∧ pa (fc j + k) = nI q.2 := H.2.2.2.1
theorem PK.d {m : S_Md} {t S : Nat} {K : Nat → Bool} {L : Nat → List (Int32 × Nat)} {ob : Nat → Nat} {u v : Nat} {fc : Nat → Nat} {fi fe pa : Nat → Int32} {s : S_Md} (H : PK m t S K L ob u v fc fi fe pa s) : ∀ i j, K i = true → L i ≠ [] → ob i < v → K j = true → L j ≠ [] → ob j < v → i ≠ j → fc i + (L i).length ≤ fc j ∨ fc j + (L j).length ≤ fc i := H.2.2.2.2.1
theorem PK.e {m : S_Md} {t S : Nat} {K : Nat → Bool} {L : Nat → List (Int32 × Nat)} {ob : Nat → Nat} {u v : Nat} {fc : Nat → Nat} {fi fe pa : Nat → Int32} {s : S_Md} (H : PK m t S K L ob u v fc fi fe pa s) : ∀ x, v ≤ x → fe x = (Md_features m).2 x ∧ pa x = (Md_parts m).2 x := H.2.2.2.2.2.1
theorem PK.f {m : S_Md} {t S : Nat} {K : Nat → Bool} {L : Nat → List (Int32 × Nat)} {ob : Nat → Nat} {u v : Nat} {fc : Nat → Nat} {fi fe pa : Nat → Int32} {s : S_Md} (H : PK m t S K L ob u v fc fi fe pa s) : u ≤ v ∧ v ≤ S := H.2.2.2.2.2.2.1
theorem PK.g {m : S_Md} {t S : Nat} {K : Nat → Bool} {L : Nat → List (Int32 × Nat)} {ob : Nat → Nat} {u v : Nat} {fc : Nat → Nat} {fi fe pa : Nat → Int32} {s : S_Md} (H : PK m t S K L ob u v fc fi fe pa s) : u = sumf (fun j => if pb (K j = true ∧ ob j < v) then (L j).length else 0) t := H.2.2.2.2.2.2.2
def p_cand (K : Nat → Bool) (L : Nat → List (Int32 × Nat)) (ob : Nat → Nat) (v j : Nat) : Prop := K j = true ∧ L j ≠ [] ∧ v ≤ ob j
theorem len_pos {α : Type} {l : List α} (h : l ≠ []) : 0 < l.length := List.length_pos_iff.mpr h
theorem r_nextL {n : Nat} {m s : S_Md} {t S : Nat} {K : Nat → Bool} {L : Nat → List (Int32 × Nat)} {ob : Nat → Nat} {u v : Nat} {fc : Nat → Nat} {fi fe pa : Nat → Int32} (H : PH m t S K L ob) (P : PK m t S K L ob u v fc fi fe pa s) (y1 : Int32) : ∀ (fuel i : Nat) (x : Int32), t - i < fuel → i ≤ t → ((x = -1 ∧ ∀ j, j < i → ¬ p_cand K L ob v j) ∨ ∃ j, x = nI j ∧ p_cand K L ob v j ∧ ∀ j2, j2 < i → p_cand K L ob v j2 → ob j ≤ ob j2) → xo (L_Md_pack_17 y1 (nI v) s n fuel x (nI i)) (fun o c => c = 0 ∧ ((o.1 = -1 ∧ ∀ j, ¬ p_cand K L ob v j) ∨ ∃ j, o.1 = nI j ∧ p_cand K L ob v j ∧ ∀ j2, p_cand K L ob v j2 → ob j ≤ ob j2)) := by
  have ht := H.ht
  have hS := H.hS
  have hl1 := H.l1
  have hl2 := H.l2
  have hf := P.f
  have e1 : Md_end s = nI t := by rw [P.es]; exact H.hE
  have e2 : (Md_kinds s).1 = 32768 := by rw [P.es]; exact H.l1
  have e3 : (Md_manies s).1 = 32768 := by rw [P.es]; exact H.l2
  have e4 : (Md_firsts s).1 = 32768 := by rw [P.es]
  have e5 : ∀ j, (Md_kinds s).2 j = (Md_kinds m).2 j := fun j => by rw [P.es]
  have e6 : ∀ j, (Md_manies s).2 j = (Md_manies m).2 j := fun j => by rw [P.es]
  have e7 : ∀ j, (Md_firsts s).2 j = fi j := fun j => by rw [P.es]
  have hcand : ∀ j, K j = true → L j ≠ [] → (v ≤ ob j ↔ v ≤ fc j) := fun j hj hn => by
    have := len_pos hn
    constructor
    · intro w; rw [P.b j hj hn w]; exact w
    · intro w
      by_cases w2 : v ≤ ob j
      · exact w2
      · have := (P.c j hj hn (by omega)).1
        omega
  have hfc : ∀ j, K j = true → L j ≠ [] → fc j ≤ 512 := fun j hj hn => by
    by_cases w : v ≤ ob j
    · rw [P.b j hj hn w]
      have := H.o1 j hj
      omega
    · have := (P.c j hj hn (by omega)).1
      omega
  intro fuel
  induction fuel with
  | zero => intro i x h; omega
  | succ fuel ih =>
    intro i x h1 h2 h3
    rw [L_Md_pack_17_s]
    refine xo_le t i e1 rfl (by omega) (by omega) (fun q => ?_) (fun q => ?_)
    · refine xo_p ⟨rfl, ?_⟩
      rcases h3 with ⟨w1, w2⟩ | ⟨j, w1, w2, w3⟩
      · exact Or.inl ⟨w1, fun j hj => w2 j (by have := H.hK j hj.1; omega) hj⟩
      · exact Or.inr ⟨j, w1, w2, fun j2 hj2 => w3 j2 (by have := H.hK j2 hj2.1; omega) hj2⟩
    · refine xo_rd i rfl (by omega) (by omega) ?_
      rw [e5 i]
      refine xo_b (fun w c => c = 0 ∧ ((w = 1 ∧ p_cand K L ob v i) ∨ (w = 0 ∧ ¬ p_cand K L ob v i))) ?_ (fun w c gw => ?_)
      · refine xo_if (fun w => xo_p ⟨rfl, Or.inr ⟨rfl, fun w2 => w2.2.1 ((H.kd i q).1 w)⟩⟩) (fun w => ?_)
        have hKi := (H.kd i q).2 w
        have hoi := H.o1 i hKi
        refine xo_rd i rfl (by omega) (by omega) ?_
        rw [e6 i, H.mn i hKi]
        refine xo_le _ 0 rfl nI0 (by omega) (by omega) (fun w2 => xo_p ⟨rfl, Or.inr ⟨rfl, fun w3 => w3.2.1 (List.length_eq_zero_iff.mp (by omega))⟩⟩) (fun w2 => ?_)
        have hne : L i ≠ [] := fun w3 => by rw [w3] at w2; exact absurd w2 (Nat.not_lt_zero _)
        refine xo_rd i rfl (by omega) (by omega) ?_
        rw [e7 i, P.a i hKi hne]
        have hb := hfc i hKi hne
        exact xo_lt _ _ rfl rfl (by omega) (by omega) (fun w3 => xo_p ⟨rfl, Or.inr ⟨rfl, fun w4 => by have := (hcand i hKi hne).mp w4.2.2; omega⟩⟩) (fun w3 => xo_p ⟨rfl, Or.inl ⟨rfl, hKi, hne, (hcand i hKi hne).mpr w3⟩⟩)
      · obtain ⟨rfl, gw⟩ := gw
        rw [nI_1]
        rcases gw with ⟨rfl, hc⟩ | ⟨rfl, hc⟩
        · rw [if_neg (by decide)]
          rcases h3 with ⟨w1, w2⟩ | ⟨j, w1, w2, w3⟩
          · rw [w1, if_pos rfl, xm_b_p]
            refine xo_m (ih (i + 1) _ (by omega) (by omega) (Or.inr ⟨i, rfl, hc, fun j2 hj2 hc2 => ?_⟩)) (fun o c g => ⟨by have := g.1; omega, g.2⟩)
            by_cases e8 : j2 = i
            · rw [e8]; exact Nat.le_refl _
            · exact absurd hc2 (w2 j2 (by omega))
          · have hjt := H.hK j w2.1
            rw [w1, if_neg (nI_m1 (by omega))]
            refine xo_b (fun o c => c = 0 ∧ ((o = nI j ∧ ob j ≤ ob i) ∨ (o = nI i ∧ ob i ≤ ob j))) ?_ (fun o c go => ?_)
            · refine xo_rd i rfl (by omega) (by omega) ?_
              refine xo_rd j rfl (by omega) (by omega) ?_
              rw [e7 i, e7 j, P.a i hc.1 hc.2.1, P.a j w2.1 w2.2.1, P.b i hc.1 hc.2.1 hc.2.2, P.b j w2.1 w2.2.1 w2.2.2]
              have b1 := H.o1 i hc.1
              have b2 := H.o1 j w2.1
              exact xo_le _ _ rfl rfl (by omega) (by omega) (fun w => xo_p ⟨rfl, Or.inl ⟨rfl, w⟩⟩) (fun w => xo_p ⟨rfl, Or.inr ⟨rfl, by omega⟩⟩)
            · obtain ⟨rfl, go⟩ := go
              rcases go with ⟨rfl, hle⟩ | ⟨rfl, hle⟩
              · refine xo_m (ih (i + 1) _ (by omega) (by omega) (Or.inr ⟨j, rfl, w2, fun j2 hj2 hc2 => ?_⟩)) (fun o c g => ⟨by have := g.1; omega, g.2⟩)
                by_cases e8 : j2 = i
                · rw [e8]; exact hle
                · exact w3 j2 (by omega) hc2
              · refine xo_m (ih (i + 1) _ (by omega) (by omega) (Or.inr ⟨i, rfl, hc, fun j2 hj2 hc2 => ?_⟩)) (fun o c g => ⟨by have := g.1; omega, g.2⟩)
                by_cases e8 : j2 = i
                · rw [e8]; exact Nat.le_refl _
                · exact Nat.le_trans hle (w3 j2 (by omega) hc2)
        · rw [if_pos rfl, xm_b_p]
          refine xo_m (ih (i + 1) x (by omega) (by omega) ?_) (fun o c g => ⟨by have := g.1; omega, g.2⟩)
          rcases h3 with ⟨w1, w2⟩ | ⟨j, w1, w2, w3⟩
          · refine Or.inl ⟨w1, fun j hj hj2 => ?_⟩
            by_cases e8 : j = i
            · exact hc (e8 ▸ hj2)
            · exact w2 j (by omega) hj2
          · refine Or.inr ⟨j, w1, w2, fun j2 hj2 hc2 => ?_⟩
            by_cases e8 : j2 = i
            · exact absurd (e8 ▸ hc2) hc
            · exact w3 j2 (by omega) hc2
theorem r_copyL {n : Nat} {m : S_Md} {l : List (Int32 × Nat)} {fi fe pa : Nat → Int32} {j u o : Nat} (l1 : (Md_manies m).1 = 32768) (l2 : (Md_leaders m).1 = 32768) (hj : j < 512) (huo : u ≤ o) (ho : o + l.length ≤ 512) (hm : (Md_manies m).2 j = nI l.length) (h3 : ∀ (k : Nat) (q : Int32 × Nat), l[k]? = some q → fe (o + k) = q.1 ∧ ∃ p, pa (o + k) = nI p ∧ p < 32768 ∧ (Md_leaders m).2 p = nI q.2) (y2 : Int32) : ∀ (fuel k : Nat) (s : S_Md), l.length - k < fuel → k ≤ l.length → s = Md_set_PK m (32768, fi) (65536, layf fe u ((l.take k).map Prod.fst)) (65536, layf pa u ((l.take k).map (fun q => nI q.2))) → xo (L_Md_pack_128 (nI u) y2 (nI j) (nI o) n fuel (nI k) s) (fun r c => c = 0 ∧ r.2 = Md_set_PK m (32768, fi) (65536, layf fe u (l.map Prod.fst)) (65536, layf pa u (l.map (fun q => nI q.2)))) := by
  intro fuel
  induction fuel with
  | zero => intro k s h; omega
  | succ fuel ih =>
    intro k s h1 h2 es
    subst es
    rw [L_Md_pack_128_s]
    refine xo_rd j rfl (by show j < (Md_manies m).1; omega) (by omega) ?_
    show xo (if (Md_manies m).2 j ≤ nI k then _ else _) _
    rw [hm]
    refine xo_le _ _ rfl rfl (by omega) (by omega) (fun q => ?_) (fun q => ?_)
    · have e : k = l.length := by omega
      subst e
      refine xo_p ⟨rfl, ?_⟩
      rw [List.take_length]
    · have hg : l[k]? = some l[k] := List.getElem?_eq_getElem q
      obtain ⟨g1, p, g2, g3, g4⟩ := h3 k _ hg
      have el : (l.take k).length = k := by rw [List.length_take]; omega
      rw [nI_add, nI_add]
      refine xo_rd (o + k) rfl (by show o + k < 65536; omega) (by omega) ?_
      show xo (xm_wr _ _ (layf fe u ((l.take k).map Prod.fst) (o + k)) _) _
      rw [layf_out2 (by rw [List.length_map, el]; omega), g1]
      refine xo_wr (u + k) rfl (by show u + k < 65536; omega) (by omega) ?_
      refine xo_rd (o + k) rfl (by show o + k < 65536; omega) (by omega) ?_
      show xo (xm_rd _ (layf pa u ((l.take k).map (fun q => nI q.2)) (o + k)) _) _
      rw [layf_out2 (by rw [List.length_map, el]; omega), g2]
      refine xo_rd p rfl (by show p < (Md_leaders m).1; omega) (by omega) ?_
      show xo (xm_wr _ _ ((Md_leaders m).2 p) _) _
      rw [g4]
      refine xo_wr (u + k) rfl (by show u + k < 65536; omega) (by omega) ?_
      rw [nI_1]
      refine ih (k + 1) _ (by omega) (by omega) ?_
      have et : l.take (k + 1) = l.take k ++ [l[k]] := by rw [List.take_add_one, hg]; rfl
      have f1 : upd (layf fe u ((l.take k).map Prod.fst)) (u + k) l[k].1 = layf fe u ((l.take (k + 1)).map Prod.fst) := by
        have := layf_snoc fe u ((l.take k).map Prod.fst) l[k].1
        rw [List.length_map, el] at this
        rw [this, et, List.map_append]
        rfl
      have f2 : upd (layf pa u ((l.take k).map (fun q => nI q.2))) (u + k) (nI l[k].2) = layf pa u ((l.take (k + 1)).map (fun q => nI q.2)) := by
        have := layf_snoc pa u ((l.take k).map (fun q => nI q.2)) (nI l[k].2)
        rw [List.length_map, el] at this
        rw [this, et, List.map_append]
        rfl
      show Md_set_PK m (32768, fi) (65536, upd (layf fe u ((l.take k).map Prod.fst)) (u + k) l[k].1) (65536, upd (layf pa u ((l.take k).map (fun q => nI q.2))) (u + k) (nI l[k].2)) = _
      rw [f1, f2]
theorem r_packL {n : Nat} (hn : 100000 ≤ n) {m : S_Md} {t S : Nat} {K : Nat → Bool} {L : Nat → List (Int32 × Nat)} {ob : Nat → Nat} (H : PH m t S K L ob) : ∀ (fuel u v : Nat) (fc : Nat → Nat) (fi fe pa : Nat → Int32) (s : S_Md), S - v < fuel → PK m t S K L ob u v fc fi fe pa s → xo (L_Md_pack_4 n fuel (nI u) (nI v) s) (fun o c => c = 0 ∧ ∃ u2 fc2 fi2 fe2 pa2, o.1 = nI u2 ∧ PK m t S K L ob u2 S fc2 fi2 fe2 pa2 o.2.2) := by
  have ht := H.ht
  have hS := H.hS
  intro fuel
  induction fuel with
  | zero => intro u v fc fi fe pa s h; omega
  | succ fuel ih =>
    intro u v fc fi fe pa s h1 P
    have hf := P.f
    have e1 : Md_fields s = nI S := by rw [P.es]; exact H.hF
    rw [L_Md_pack_4_s]
    refine xo_le S v e1 rfl (by omega) (by omega) (fun q => ?_) (fun q => ?_)
    · have : v = S := by omega
      subst this
      exact xo_p ⟨rfl, u, fc, fi, fe, pa, rfl, P⟩
    · have hh := r_nextL (n := n) H P (nI u) n 0 (-1) (by omega) (Nat.zero_le _) (Or.inl ⟨rfl, fun j hj => by omega⟩)
      rw [← nI0] at hh
      refine xo_b _ hh (fun o c g => ?_)
      obtain ⟨rfl, g⟩ := g
      rcases g with ⟨g1, g2⟩ | ⟨j, g1, g2, g3⟩
      · rw [g1, if_pos rfl, e1]
        have hno : ∀ j, K j = true → L j ≠ [] → ob j < v := fun j hj hn => by
          by_cases w : v ≤ ob j
          · exact absurd ⟨hj, hn, w⟩ (g2 j)
          · omega
        refine xo_m (ih u S fc fi fe pa s (by omega) ⟨P.es, P.a, fun j hj hn hv => ?_, fun j hj hn hv => ?_, fun i j hi hni _ hj hnj _ hij => P.d i j hi hni (hno i hi hni) hj hnj (hno j hj hnj) hij, fun x hx => P.e x (by omega), ⟨by omega, Nat.le_refl _⟩, ?_⟩) (fun o c g => ⟨by have := g.1; omega, g.2⟩)
        · have := H.o1 j hj
          have := len_pos hn
          omega
        · obtain ⟨w1, w2, w3⟩ := P.c j hj hn (hno j hj hn)
          exact ⟨w1, by omega, w3⟩
        · rw [P.g]
          refine sumf_congr (fun j _ => ?_)
          show (if pb (K j = true ∧ ob j < v) = true then (L j).length else 0) = (if pb (K j = true ∧ ob j < S) = true then (L j).length else 0)
          by_cases hn : L j = []
          · rw [hn]; simp
          · by_cases hj : K j = true
            · rw [pb_t ⟨hj, hno j hj hn⟩, pb_t ⟨hj, by have := hno j hj hn; omega⟩]
            · rw [pb_f (fun w => hj w.1), pb_f (fun w => hj w.1)]
      · have hjt := H.hK j g2.1
        have hoj := H.o1 j g2.1
        have hlp := len_pos g2.2.1
        have e4 : (Md_firsts s).1 = 32768 := by rw [P.es]
        have e7 : (Md_firsts s).2 j = nI (ob j) := by rw [P.es]; show fi j = _; rw [P.a j g2.1 g2.2.1, P.b j g2.1 g2.2.1 g2.2.2]
        rw [g1, if_neg (nI_m1 (by omega))]
        refine xo_rd j rfl (by omega) (by omega) ?_
        rw [e7]
        have hcp := r_copyL (n := n) (m := m) (l := L j) (fi := fi) (fe := fe) (pa := pa) (u := u) (o := ob j) H.l2 H.l3 (by omega : j < 512) (by have := g2.2.2; omega) (by omega) (H.mn j g2.1) (fun k q hq => by
          have hk := (List.getElem?_eq_some_iff.mp hq).1
          obtain ⟨w1, w2⟩ := P.e (ob j + k) (by have := g2.2.2; omega)
          rw [w1, w2]
          exact H.o3 j k q g2.1 hq) (nI v) n 0 s (by omega) (Nat.zero_le _) (by
            show s = Md_set_PK m (32768, fi) (65536, layf fe u []) (65536, layf pa u [])
            rw [layf_nil, layf_nil]
            exact P.es)
        rw [← nI0] at hcp
        refine xo_b _ hcp (fun o2 c2 gc => ?_)
        obtain ⟨rfl, gc⟩ := gc
        rw [gc]
        refine xo_wr j rfl (by show j < 32768; omega) (by omega) ?_
        refine xo_rd j rfl (by show j < (Md_manies m).1; rw [H.l2]; omega) (by omega) ?_
        refine xo_rd j rfl (by show j < (Md_manies m).1; rw [H.l2]; omega) (by omega) ?_
        show xo (L_Md_pack_4 n fuel (nI u + (Md_manies m).2 j) (nI (ob j) + (Md_manies m).2 j) _) _
        rw [H.mn j g2.1, nI_add, nI_add]
        have hv := g2.2.2
        -- what is done behind the new border
        have hnew : ∀ i, K i = true → L i ≠ [] → i ≠ j → ob i < ob j + (L j).length → ob i < v := fun i hi hni hij hlt => by
          by_cases w : v ≤ ob i
          · have w1 := g3 i ⟨hi, hni, w⟩
            have := len_pos hni
            rcases H.o2 i j hi g2.1 hij with w2 | w2 <;> omega
          · omega
        have hl1 : ((L j).map Prod.fst).length = (L j).length := List.length_map _
        have hl2 : ((L j).map (fun q : Int32 × Nat => nI q.2)).length = (L j).length := List.length_map _
        refine xo_m (ih (u + (L j).length) (ob j + (L j).length) (fun i => if i = j then u else fc i) (upd fi j (nI u)) (layf fe u ((L j).map Prod.fst)) (layf pa u ((L j).map (fun q => nI q.2))) _ (by omega) ⟨rfl, fun i hi hni => ?_, fun i hi hni hle => ?_, fun i hi hni hlt => ?_, fun i k hi hni hil hk hnk hkl hik => ?_, fun x hx => ?_, ⟨by omega, hoj⟩, ?_⟩) (fun o c g => ⟨by have := g.1; omega, g.2⟩)
        · rw [upd_at]
          show (if i = j then nI u else fi i) = nI (if i = j then u else fc i)
          by_cases w : i = j
          · rw [if_pos w, if_pos w]
          · rw [if_neg w, if_neg w, P.a i hi hni]
        · show (if i = j then u else fc i) = ob i
          have w : i ≠ j := fun w => by rw [w] at hle; omega
          rw [if_neg w]
          exact P.b i hi hni (by omega)
        · show (if i = j then u else fc i) + (L i).length ≤ u + (L j).length ∧ _
          by_cases w : i = j
          · subst w
            rw [if_pos rfl]
            refine ⟨Nat.le_refl _, Nat.le_refl _, fun k q hq => ?_⟩
            have a1 : ((L i).map Prod.fst)[k]? = some q.1 := by rw [List.getElem?_map, hq]; rfl
            have a2 : ((L i).map (fun q => nI q.2))[k]? = some (nI q.2) := by rw [List.getElem?_map, hq]; rfl
            show layf fe u ((L i).map Prod.fst) ((if i = i then u else fc i) + k) = q.1 ∧ layf pa u ((L i).map (fun q => nI q.2)) ((if i = i then u else fc i) + k) = nI q.2
            rw [if_pos rfl]
            exact ⟨layf_in a1, layf_in a2⟩
          · rw [if_neg w]
            obtain ⟨w1, w2, w3⟩ := P.c i hi hni (hnew i hi hni w hlt)
            refine ⟨by omega, by omega, fun k q hq => ?_⟩
            have hk := (List.getElem?_eq_some_iff.mp hq).1
            show layf fe u ((L j).map Prod.fst) ((if i = j then u else fc i) + k) = q.1 ∧ layf pa u ((L j).map (fun q => nI q.2)) ((if i = j then u else fc i) + k) = nI q.2
            rw [if_neg w, layf_out (by omega), layf_out (by omega)]
            exact w3 k q hq
        · show (if i = j then u else fc i) + (L i).length ≤ (if k = j then u else fc k) ∨ (if k = j then u else fc k) + (L k).length ≤ (if i = j then u else fc i)
          by_cases w : i = j
          · have w2 : k ≠ j := fun w2 => hik (w.trans w2.symm)
            rw [if_pos w, if_neg w2]
            exact Or.inr (P.c k hk hnk (hnew k hk hnk w2 hkl)).1
          · by_cases w2 : k = j
            · rw [if_neg w, if_pos w2]
              exact Or.inl (P.c i hi hni (hnew i hi hni w hil)).1
            · rw [if_neg w, if_neg w2]
              exact P.d i k hi hni (hnew i hi hni w hil) hk hnk (hnew k hk hnk w2 hkl) hik
        · rw [layf_out2 (by rw [hl1]; omega), layf_out2 (by rw [hl2]; omega)]
          exact P.e x (by omega)
        · rw [P.g]
          refine (sumf_set (x := j) hjt ?_ ?_ (fun i hi => ?_)).symm
          · show (if pb (K j = true ∧ ob j < v) = true then (L j).length else 0) = 0
            rw [pb_f (fun w => by omega)]
            rfl
          · show (if pb (K j = true ∧ ob j < ob j + (L j).length) = true then (L j).length else 0) = (L j).length
            rw [pb_t ⟨g2.1, by omega⟩]
            rfl
          · show (if pb (K i = true ∧ ob i < v) = true then (L i).length else 0) = (if pb (K i = true ∧ ob i < ob j + (L j).length) = true then (L i).length else 0)
            by_cases hni : L i = []
            · rw [hni]; simp
            · by_cases hKi : K i = true
              · by_cases w : ob i < v
                · rw [pb_t ⟨hKi, w⟩, pb_t ⟨hKi, by omega⟩]
                · rw [pb_f (fun w2 => w w2.2), pb_f (fun w2 => w (hnew i hKi hni hi w2.2))]
              · rw [pb_f (fun w => hKi w.1), pb_f (fun w => hKi w.1)]
theorem r_pack {n : Nat} (hn : 100000 ≤ n) {m : S_Md} {t S : Nat} {K : Nat → Bool} {L : Nat → List (Int32 × Nat)} {ob : Nat → Nat} (H : PH m t S K L ob) (l1 : (Md_firsts m).1 = 32768) (l2 : (Md_features m).1 = 65536) (l3 : (Md_parts m).1 = 65536) (hfi : ∀ j, K j = true → L j ≠ [] → (Md_firsts m).2 j = nI (ob j)) : xo (m_Md_pack n m) (fun o c => c = 0 ∧ ∃ (fc : Nat → Nat) (fi fe pa : Nat → Int32) (s : S_Md), o = Md_set_fields s (nI (sumf (fun j => (L j).length) t)) ∧ s = Md_set_PK m (32768, fi) (65536, fe) (65536, pa) ∧ (∀ j, K j = true → L j ≠ [] → fi j = nI (fc j) ∧ fc j + (L j).length ≤ sumf (fun j => (L j).length) t ∧ ∀ (k : Nat) (q : Int32 × Nat), (L j)[k]? = some q → fe (fc j + k) = q.1 ∧ pa (fc j + k) = nI q.2) ∧ (∀ i j, K i = true → L i ≠ [] → K j = true → L j ≠ [] → i ≠ j → fc i + (L i).length ≤ fc j ∨ fc j + (L j).length ≤ fc i)) := by
  have hS := H.hS
  unfold m_Md_pack
  have e0 : sumf (fun j => if pb (K j = true ∧ ob j < 0) then (L j).length else 0) t = 0 := by
    have : ∀ t, sumf (fun j => if pb (K j = true ∧ ob j < 0) then (L j).length else 0) t = 0 := fun t => by
      induction t with
      | zero => rfl
      | succ t ih =>
        rw [sumf_s, ih]
        show 0 + (if pb (K t = true ∧ ob t < 0) = true then (L t).length else 0) = 0
        rw [pb_f (fun w => by omega)]
        rfl
    exact this t
  have P0 : PK m t S K L ob 0 0 ob (Md_firsts m).2 (Md_features m).2 (Md_parts m).2 m := ⟨by
    have a1 : ((32768, (Md_firsts m).2) : Ar) = Md_firsts m := by rw [← l1]
    have a2 : ((65536, (Md_features m).2) : Ar) = Md_features m := by rw [← l2]
    have a3 : ((65536, (Md_parts m).2) : Ar) = Md_parts m := by rw [← l3]
    rw [a1, a2, a3], hfi, fun j _ _ _ => rfl, fun j _ _ h => by omega, fun i j _ _ h => by omega, fun x _ => ⟨rfl, rfl⟩, ⟨Nat.le_refl _, Nat.zero_le _⟩, e0.symm⟩
  have hh := r_packL (n := n) hn H n 0 0 _ _ _ _ m (by omega) P0
  rw [← nI0] at hh
  refine xo_b _ hh (fun o c g => ?_)
  obtain ⟨rfl, u2, fc2, fi2, fe2, pa2, w1, P⟩ := g
  have hdone : ∀ j, K j = true → L j ≠ [] → ob j < S := fun j hj hn => by
    have := H.o1 j hj
    have := len_pos hn
    omega
  have hu : u2 = sumf (fun j => (L j).length) t := by
    rw [P.g]
    refine sumf_congr (fun j _ => ?_)
    show (if pb (K j = true ∧ ob j < S) = true then (L j).length else 0) = (L j).length
    by_cases hn : L j = []
    · rw [hn]; simp
    · by_cases hj : K j = true
      · rw [pb_t ⟨hj, hdone j hj hn⟩]; rfl
      · exact absurd (H.oL j hj) hn
  rw [w1, hu]
  refine xo_p ⟨rfl, fc2, fi2, fe2, pa2, o.2.2, rfl, P.es, fun j hj hn => ?_, fun i j hi hni hj hnj hij => P.d i j hi hni (hdone i hi hni) hj hnj (hdone j hj hnj) hij⟩
  obtain ⟨k1, k2, k3⟩ := P.c j hj hn (hdone j hj hn)
  exact ⟨P.a j hj hn, by rw [← hu]; exact k1, k3⟩
