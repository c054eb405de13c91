/-! the class's nodes: a node is added -/
theorem upd_at (f : Nat → Int32) (k : Nat) (x : Int32) (j : Nat) : upd f k x j = if j = k then x else f j := rfl
theorem o_roomK {n : Nat} {x : Ar} {t m : Nat} (h : ArOk x t) (hm : m ≤ 2048) : xo (m_Ts_withRoom n x (nI m)) (fun a c => ArOk a m ∧ x.1 ≤ a.1 ∧ (∀ i, i < x.1 → a.2 i = x.2 i) ∧ c + 2 * x.1 ≤ 2 * a.1) := by
  obtain ⟨h1, h2, h3⟩ := h
  refine xo_m (o_room 2048 h1 h2 hm (by omega)) (fun a c q => ?_)
  obtain ⟨q1, q2, q3, q4, q5⟩ := q
  exact ⟨⟨by omega, q3, q1⟩, q2, q4, q5⟩
theorem o_wipeL {n : Nat} {t : Nat} (ht : t < 2 ^ 31) : ∀ (fuel i : Nat) (x : Ar), t - i < fuel → i ≤ t → t ≤ x.1 → x.1 < 2 ^ 31 → xo (L_Ts_wipe_2 (nI t) n fuel (nI i) x) (fun o c => c = 0 ∧ o.2.1 = x.1 ∧ ∀ j, o.2.2 j = if i ≤ j ∧ j < t then 0 else x.2 j) := by
  intro fuel
  induction fuel with
  | zero => intro i x h; omega
  | succ fuel ih =>
    intro i x h1 h2 h3 h4
    rw [L_Ts_wipe_2_s]
    refine xo_le t i rfl rfl ht (by omega) (fun q => ?_) (fun q => ?_)
    · refine xo_p ⟨rfl, rfl, fun j => ?_⟩
      rw [if_neg (by omega)]
    · refine xo_le x.1 i rfl rfl h4 (by omega) (fun q2 => absurd q2 (by omega)) (fun q2 => ?_)
      refine xo_wr i rfl (by omega) (by omega) ?_
      rw [nI_1]
      refine xo_m (ih (i + 1) (x.1, upd x.2 i 0) (by omega) (by omega) h3 h4) (fun o c q3 => ?_)
      obtain ⟨e1, e2, e3⟩ := q3
      refine ⟨e1, e2, fun j => ?_⟩
      rw [e3 j]
      show (if i + 1 ≤ j ∧ j < t then 0 else upd x.2 i 0 j) = _
      rw [upd_at]
      by_cases a1 : j = i
      · rw [if_neg (by omega), if_pos a1, if_pos (by omega)]
      · by_cases a2 : i + 1 ≤ j ∧ j < t
        · rw [if_pos a2, if_pos (by omega)]
        · rw [if_neg a2, if_neg a1, if_neg (by omega)]
theorem o_wipe {n : Nat} {t : Nat} (hn : t < n) (ht : t < 2 ^ 31) {x : Ar} (h3 : t ≤ x.1) (h4 : x.1 < 2 ^ 31) : xo (m_Ts_wipe n x (nI t)) (fun o c => c = 0 ∧ o.1 = x.1 ∧ ∀ j, o.2 j = if j < t then 0 else x.2 j) := by
  unfold m_Ts_wipe
  have hh := o_wipeL (n := n) ht n 0 x (by omega) (Nat.zero_le _) h3 h4
  rw [← nI0] at hh
  refine xo_b _ hh (fun a c h => ?_)
  obtain ⟨e1, e2, e3⟩ := h
  refine xo_p ⟨by omega, e2, fun j => ?_⟩
  rw [e3 j]
  by_cases a : j < t
  · rw [if_pos ⟨Nat.zero_le _, a⟩, if_pos a]
  · rw [if_neg (fun q => a q.2), if_neg a]
/-- the marked ones that lead -/
def mkL (mk : Nat → Bool) (ld : Nat → Nat) : Nat → Bool := fun i => mk i && decide (ld i = i)
/-- marks: the row has those of leaders, the count all -/
def CM (s : S_No) (t : Nat) (mk : Nat → Bool) (ld : Nat → Nat) : Prop := (∀ i, i < t → (No_marked s).2 i = if mkL mk ld i then 1 else 0) ∧ No_marks s = nI (cnt mk t)
/-- all of a class are variables -/
def a_var (z : AS) (r : Nat) : Prop := ∀ j, al z j → a_ld z j = r → a_kd z j = 0
/-- what is needed -/
def CD (s : S_No) (z : AS) (nd : Nat → Prop) : Prop := (∀ r, al z r → a_ld z r = r → a_var z r → ((No_needed s).2 r = 1 ↔ nd r)) ∧ ∀ i, al z i → a_var z (a_ld z i) → (No_needed s).2 i = 1 → (No_needed s).2 (a_ld z i) = 1
/-- the lengths of the rows -/
def LNo (s : S_No) : Nat := (No_kinds s).1 + (No_values s).1 + (No_starts s).1 + (No_sizes s).1 + (No_lead s).1 + (No_bodies s).1 + (No_needed s).1 + (No_marked s).1 + (Fi_features (No_fields s)).1 + (Fi_parts (No_fields s)).1 + (Fi_nextFeatures (No_fields s)).1 + (Fi_nextParts (No_fields s)).1 + (Ld_row (No_reached s)).1
theorem cnt_zero {f : Nat → Bool} {t : Nat} (h : cnt f t = 0) : ∀ i, i < t → f i = false := by
  induction t with
  | zero => intro i hi; omega
  | succ t ih =>
    intro i hi
    unfold cnt at h
    by_cases e : f t = true
    · rw [e] at h; simp at h
    · by_cases e2 : i = t
      · subst e2; simpa using e
      · exact ih (by omega) i (by omega)
theorem cnt_false (t : Nat) : cnt (fun _ => false) t = 0 := by
  induction t with
  | zero => rfl
  | succ t ih => unfold cnt; rw [ih]; rfl
theorem o_drop {n : Nat} {s : S_No} {t : Nat} {mk : Nat → Bool} {ld : Nat → Nat} (hn : 100000 ≤ n) (ht : t ≤ 2048) (hm : CM s t mk ld) (hT : No_top s = nI t) (hA : ArOk (No_marked s) t) : xo (m_No_dropMarks n s) (fun o c => c = 0 ∧ (∀ ld2, CM o t (fun _ => false) ld2) ∧ (No_marked o).1 = (No_marked s).1 ∧ o = ((No_kinds s), (No_values s), (No_starts s), (No_sizes s), (No_lead s), (No_bodies s), (No_needed s), (No_marked o), (No_top s), (No_lowest s), (No_alive s), (No_marks o), (No_fields s), (No_reached s))) := by
  unfold m_No_dropMarks
  have hc := cnt_le mk t
  refine xo_le (cnt mk t) 0 hm.2 nI0 (by omega) (by omega) (fun q => ?_) (fun q => ?_)
  · have h0 : cnt mk t = 0 := by omega
    refine xo_p ⟨rfl, fun ld2 => ⟨fun i hi => ?_, ?_⟩, rfl, rfl⟩
    · rw [hm.1 i hi, show mkL mk ld i = false by unfold mkL; rw [cnt_zero h0 i hi]; rfl]
      rfl
    · rw [hm.2, h0, cnt_false]
  · rw [hT]
    refine xo_b _ (o_wipe (n := n) (t := t) (x := No_marked s) (by omega) (by omega) hA.2.2 (by have := hA.2.1; omega)) (fun a c h => ?_)
    obtain ⟨e1, e2, e3⟩ := h
    refine xo_p ⟨by omega, fun ld2 => ⟨fun i hi => ?_, ?_⟩, e2, rfl⟩
    · show a.2 i = _
      rw [e3 i, if_pos hi]
      rfl
    · show (0 : Int32) = _
      rw [cnt_false]
      exact nI0
