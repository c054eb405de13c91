/-! the two objects, as they are made -/
def xq {α : Type} (x : MO α) (P : α → Nat → Nat → Prop) : Prop := ∃ (a : α) (k : KC), x = some (a, k) ∧ P a k.1 k.2
theorem xq_p {α : Type} {a : α} {P : α → Nat → Nat → Prop} (h : P a 0 0) : xq (xm_p a) P := ⟨a, (0, 0), rfl, h⟩
theorem xq_b {α β : Type} {x : MO α} {f : α → MO β} {P : β → Nat → Nat → Prop} (Q : α → Nat → Nat → Prop) (hx : xq x Q) (hf : ∀ a c d, Q a c d → xq (f a) (fun b c2 d2 => P b (c + c2) (d + d2))) : xq (xm_b x f) P := by
  obtain ⟨a, k, h1, h3⟩ := hx
  obtain ⟨b, k2, g1, g3⟩ := hf a k.1 k.2 h3
  exact ⟨b, _, xm_b_of h1 g1, g3⟩
theorem xq_al {β : Type} {c n : Nat} {x : MO β} {P : β → Nat → Nat → Prop} (hx : xq x (fun b c2 d2 => P b (c + c2) (n + d2))) : xq (xm_al c n x) P := by
  obtain ⟨a, k, h1, h3⟩ := hx
  exact ⟨a, (c + k.1, n + k.2), by rw [h1]; rfl, h3⟩
theorem xq_na {β : Type} {i : Int32} {f : Ar → MO β} {P : β → Nat → Nat → Prop} (N : Nat) (hi : i = nI N) (h2 : N ≤ 67108864) (h : xq (f (N, fun _ => 0)) (fun b c d => P b (1 + c) (N + d))) : xq (xm_na i f) P := by
  subst hi
  unfold xm_na
  have hb : N < 2 ^ 31 := by omega
  rw [nI_clamp hb, if_neg (fun q => q.elim (fun q => nI_pos hb q) (fun q => by omega))]
  exact xq_al h
theorem xq_o {α : Type} {x : MO α} {P : α → Nat → Prop} (h : xo x P) : xq x (fun a c d => 16 * c ≤ d ∧ P a d) := by
  obtain ⟨a, k, h1, h2, h3⟩ := h
  exact ⟨a, k, h1, h2, h3⟩
theorem n16 : (16 : Int32) = nI 16 := by decide +kernel
theorem n32 : (32768 : Int32) = nI 32768 := by decide +kernel
theorem n65 : (65536 : Int32) = nI 65536 := by decide +kernel
theorem n255 : (255 : Int32) = nI 255 := by decide +kernel
theorem n256 : (256 : Int32) = nI 256 := by decide +kernel
abbrev R16 : Ar := (16, fun _ => 0)
theorem q_Ld {n : Nat} : xq (m_Ld_init n) (fun o c d => o = (R16, 0) ∧ c = 1 ∧ d = 16) := by
  unfold m_Ld_init
  exact xq_na 16 n16 (by omega) (xq_p ⟨rfl, rfl, rfl⟩)
theorem q_Pr {n : Nat} : xq (m_Pr_init n) (fun o c d => o = (R16, R16, 0) ∧ c = 2 ∧ d = 32) := by
  unfold m_Pr_init
  exact xq_na 16 n16 (by omega) (xq_na 16 n16 (by omega) (xq_p ⟨rfl, rfl, rfl⟩))
theorem q_Pu {n : Nat} : xq (m_Pu_init n) (fun o c d => o = (R16, R16, 0) ∧ c = 2 ∧ d = 32) := by
  unfold m_Pu_init
  exact xq_na 16 n16 (by omega) (xq_na 16 n16 (by omega) (xq_p ⟨rfl, rfl, rfl⟩))
theorem q_Fi {n : Nat} : xq (m_Fi_init n) (fun o c d => o = (R16, R16, 0, R16, R16, 0) ∧ c = 4 ∧ d = 64) := by
  unfold m_Fi_init
  exact xq_na 16 n16 (by omega) (xq_na 16 n16 (by omega) (xq_na 16 n16 (by omega) (xq_na 16 n16 (by omega) (xq_p ⟨rfl, rfl, rfl⟩))))
theorem q_No {n : Nat} : xq (m_No_init n) (fun o c d => o = (R16, R16, R16, R16, R16, R16, R16, R16, 0, 0, 0, 0, (R16, R16, 0, R16, R16, 0), (R16, 0)) ∧ c = 15 ∧ d = 216) := by
  unfold m_No_init
  refine xq_na 16 n16 (by omega) (xq_na 16 n16 (by omega) (xq_na 16 n16 (by omega) (xq_na 16 n16 (by omega) (xq_na 16 n16 (by omega) (xq_na 16 n16 (by omega) (xq_na 16 n16 (by omega) (xq_na 16 n16 (by omega) ?_)))))))
  refine xq_al (xq_b _ q_Fi (fun a c d h => ?_))
  obtain ⟨rfl, rfl, rfl⟩ := h
  refine xq_al (xq_b _ q_Ld (fun a c d h => ?_))
  obtain ⟨rfl, rfl, rfl⟩ := h
  exact xq_p ⟨rfl, rfl, rfl⟩
theorem q_Tr {n : Nat} : xq (m_Tr_init n) (fun o c d => o = ((R16, R16, 0), (R16, 0), R16, R16, R16) ∧ c = 8 ∧ d = 101) := by
  unfold m_Tr_init
  refine xq_al (xq_b _ q_Pr (fun a c d h => ?_))
  obtain ⟨rfl, rfl, rfl⟩ := h
  refine xq_al (xq_b _ q_Ld (fun a c d h => ?_))
  obtain ⟨rfl, rfl, rfl⟩ := h
  exact xq_na 16 n16 (by omega) (xq_na 16 n16 (by omega) (xq_na 16 n16 (by omega) (xq_p ⟨rfl, rfl, rfl⟩)))
theorem q_Lk {n : Nat} : xq (m_Lk_init n) (fun o c d => o = ((R16, R16, 0), R16, R16) ∧ c = 5 ∧ d = 67) := by
  unfold m_Lk_init
  refine xq_al (xq_b _ q_Pr (fun a c d h => ?_))
  obtain ⟨rfl, rfl, rfl⟩ := h
  exact xq_na 16 n16 (by omega) (xq_na 16 n16 (by omega) (xq_p ⟨rfl, rfl, rfl⟩))
theorem q_Ts {n : Nat} : xq (m_Ts_init n) (fun o c d => o = ((R16, R16, R16, R16, R16, R16, R16, R16, 0, 0, 0, 0, (R16, R16, 0, R16, R16, 0), (R16, 0)), (R16, R16, 0), ((R16, R16, 0), (R16, 0), R16, R16, R16), ((R16, R16, 0), R16, R16), (R16, 0)) ∧ c = 36 ∧ d = 461) := by
  unfold m_Ts_init
  refine xq_al (xq_b _ q_No (fun a c d h => ?_))
  obtain ⟨rfl, rfl, rfl⟩ := h
  refine xq_al (xq_b _ q_Pu (fun a c d h => ?_))
  obtain ⟨rfl, rfl, rfl⟩ := h
  refine xq_al (xq_b _ q_Tr (fun a c d h => ?_))
  obtain ⟨rfl, rfl, rfl⟩ := h
  refine xq_al (xq_b _ q_Lk (fun a c d h => ?_))
  obtain ⟨rfl, rfl, rfl⟩ := h
  refine xq_al (xq_b _ q_Ld (fun a c d h => ?_))
  obtain ⟨rfl, rfl, rfl⟩ := h
  exact xq_p ⟨rfl, rfl, rfl⟩
def z_0 : AS := (0, fun _ => -1, fun _ => 0, fun i => i, fun _ => [])
def F_0 : FS := (z_0, fun _ => False, fun _ => false, [], [])
theorem al_0 {i : Nat} : ¬ al z_0 i := fun h => h rfl
theorem z_0_sum : a_sum z_0 = 0 := rfl
theorem FI_0 : FI F_0 0 := by
  refine ⟨⟨fun i _ => rfl, fun i hi => absurd hi al_0, fun i hi => absurd hi al_0, fun i hi => ⟨rfl, rfl⟩, fun i hi => absurd hi al_0, fun i hi => absurd hi al_0, fun i j hi => absurd hi al_0, fun h => absurd h (Nat.lt_irrefl 0)⟩, fun q hq => absurd hq List.not_mem_nil, List.nodup_nil, Nat.zero_le _, ⟨Nat.le_refl _, Nat.le_refl _, Nat.le_refl _, Nat.zero_le _⟩, fun i hi => absurd (show false = true from hi) Bool.false_ne_true, fun i j hi => absurd (show false = true from hi) Bool.false_ne_true, fun i q hi => absurd (show false = true from hi) Bool.false_ne_true⟩
theorem ok16 : ArOk R16 0 := ⟨Nat.le_refl _, by decide, Nat.zero_le _⟩
theorem CT_0 : CT ((R16, R16, R16, R16, R16, R16, R16, R16, 0, 0, 0, 0, (R16, R16, 0, R16, R16, 0), (R16, 0)), (R16, R16, 0), ((R16, R16, 0), (R16, 0), R16, R16, R16), ((R16, R16, 0), R16, R16), (R16, 0)) F_0 := by
  refine ⟨⟨fun _ => 0, fun i => i, 0, ?_⟩, ?_, ?_, ?_, ?_, ?_, ?_⟩
  · refine ⟨⟨ok16, ok16, ok16, ok16, ok16, ok16, ok16, ok16⟩, ⟨ok16, ok16, ok16, ok16, ok16⟩, ⟨nI0, nI0, nI0, nI0⟩, fun i hi => absurd hi (Nat.not_lt_zero _), fun i hi => absurd hi al_0, fun i hi => absurd hi (Nat.not_lt_zero _), fun i hi => absurd hi al_0, fun i hi => absurd hi (Nat.not_lt_zero _), fun i hi => absurd hi (Nat.not_lt_zero _), fun i hi => absurd hi al_0, fun i hi => absurd hi al_0, fun i k hi => absurd hi al_0, fun i j hi => absurd hi al_0, fun i hi => absurd hi (Nat.not_lt_zero _), ⟨Nat.zero_le _, Nat.zero_le _⟩⟩
  · exact ⟨fun i hi => absurd hi (Nat.not_lt_zero _), nI0⟩
  · exact ⟨fun i hi => absurd hi al_0, fun i hi => absurd hi al_0⟩
  · exact ⟨ok16, ok16, nI0, Nat.zero_le _, fun k q hq => absurd (show ([] : List (Int32 × Nat))[k]? = some q from hq) (by simp)⟩
  · exact ⟨ok16, nI0, Nat.zero_le _, fun k q hq => absurd (show ([] : List Nat)[k]? = some q from hq) (by simp)⟩
  · exact ⟨ok16, ok16, ok16, ok16, ok16, ok16⟩
  · exact ⟨ok16, ok16, ok16, ok16⟩
theorem r_initL {n : Nat} : ∀ (fuel i : Nat) (s : S_Md), 32768 - i < fuel → i ≤ 32768 → (Md_kinds s).1 = 32768 → (∀ k, k < i → (Md_kinds s).2 k = -1) → xo (L_Md_init_170 n fuel (nI i) s) (fun o c => c = 0 ∧ ∃ g : Nat → Int32, o.2 = Md_set_kinds s (32768, g) ∧ ∀ k, k < 32768 → g k = -1) := by
  intro fuel
  induction fuel with
  | zero => intro i s h; omega
  | succ fuel ih =>
    intro i s h1 h2 h3 h4
    rw [L_Md_init_170_s, ny_m]
    refine xo_le 32768 i n32 rfl (by omega) (by omega) (fun q => ?_) (fun q => ?_)
    · have : i = 32768 := by omega
      subst this
      refine xo_p ⟨rfl, (Md_kinds s).2, ?_, h4⟩
      show s = _
      rw [← h3]
    · refine xo_wr i rfl (by omega) (by omega) ?_
      rw [nI_1]
      refine xo_m (ih (i + 1) (Md_set_kinds s ((Md_kinds s).1, upd (Md_kinds s).2 i (-1))) (by omega) (by omega) h3 (fun k hk => ?_)) (fun o c g => g)
      show upd (Md_kinds s).2 i (-1) k = -1
      rw [upd_at]
      by_cases e : k = i
      · rw [if_pos e]
      · rw [if_neg e]; exact h4 k (by omega)
theorem q_Md {n : Nat} (hn : 100000 ≤ n) : xq (m_Md_init n) (fun o c d => RM o F_0 ∧ 16 * c ≤ d ∧ d = 590846) := by
  unfold m_Md_init
  refine xq_na 32768 n32 (by omega) (xq_na 32768 n32 (by omega) (xq_na 32768 n32 (by omega) (xq_na 32768 n32 (by omega) (xq_na 32768 n32 (by omega) (xq_na 32768 n32 (by omega) (xq_na 32768 n32 (by omega) (xq_na 32768 n32 (by omega) (xq_na 32768 n32 (by omega) ?_))))))))
  refine xq_na 65536 n65 (by omega) (xq_na 65536 n65 (by omega) (xq_na 255 n255 (by omega) (xq_na 255 n255 (by omega) ?_)))
  refine xq_na 32768 n32 (by omega) (xq_na 32768 n32 (by omega) (xq_na 32768 n32 (by omega) (xq_na 32768 n32 (by omega) (xq_na 32768 n32 (by omega) (xq_na 256 n256 (by omega) (xq_na 256 n256 (by omega) ?_))))))
  have hh := xq_o (r_initL (n := n) n 0 ((32768, fun _ => 0), (32768, fun _ => 0), (32768, fun _ => 0), (32768, fun _ => 0), (32768, fun _ => 0), (32768, fun _ => 0), (32768, fun _ => 0), (32768, fun _ => 0), (32768, fun _ => 0), 0, 0, (65536, fun _ => 0), (65536, fun _ => 0), 0, (255, fun _ => 0), (255, fun _ => 0), 0, (32768, fun _ => 0), 0, (32768, fun _ => 0), (32768, fun _ => 0), (32768, fun _ => 0), (32768, fun _ => 0), (256, fun _ => 0), (256, fun _ => 0), 0) (by omega) (Nat.zero_le _) rfl (fun k hk => by omega))
  rw [← nI0] at hh
  refine xq_b _ hh (fun o c d g => ?_)
  obtain ⟨g0, rfl, g, g1, g2⟩ := g
  have c0 : c = 0 := by omega
  subst c0
  refine xq_p ⟨?_, by decide, by decide⟩
  rw [g1]
  refine ⟨⟨⟨rfl, rfl, rfl, rfl, rfl, rfl, rfl, rfl, rfl⟩, ⟨rfl, rfl, rfl, rfl⟩, ⟨rfl, rfl, rfl, rfl, rfl⟩, ⟨show 256 ≤ 256 by decide, show 256 ≤ 16384 by decide, show 256 ≤ 256 by decide, show 256 ≤ 16384 by decide⟩⟩, ⟨fun _ => 0, ?_⟩, fun i hi => absurd hi al_0, ⟨fun i hi => absurd hi al_0, fun i hi => absurd hi al_0⟩, ⟨nI0, Nat.zero_le _, fun k q hq => absurd (show ([] : List (Int32 × Nat))[k]? = some q from hq) (by simp)⟩, ⟨nI0, Nat.zero_le _, fun k q hq => absurd (show ([] : List Nat)[k]? = some q from hq) (by simp)⟩⟩
  exact ⟨⟨nI0, nI0, nI0⟩, g2, fun i hi => absurd hi al_0, fun i hi => absurd hi al_0, fun i hi => absurd hi al_0, fun i hi => absurd hi al_0, fun i hi => absurd hi al_0, fun i k hi => absurd hi al_0, fun i j hi => absurd hi al_0⟩
