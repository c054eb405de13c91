/-! WORDS: those of the tables that every state behind keeps, in one list for all methods; those of nest mates in another -/
def xw_G : List Cond := lw_tbl.filter goodWord
def xn_is : Cond → Bool
  | .fieldLinkNest .. => true
  | .methodLinkNest .. => true
  | _ => false
def xn_W : List Cond := lw_tbl.filter xn_is
theorem xw_at {w : Cond} (i : Nat) (h : lw_tbl[i]? = some w) (hg : goodWord w = true) : w ∈ xw_G := List.mem_filter.mpr ⟨List.mem_of_getElem? h, hg⟩
theorem xn_at {w : Cond} (i : Nat) (h : lw_tbl[i]? = some w) (hg : xn_is w = true) : w ∈ xn_W := List.mem_filter.mpr ⟨List.mem_of_getElem? h, hg⟩
theorem xw_good {w : Cond} (h : w ∈ xw_G) : (w.onTables && w.keeps) = true ∨ ∃ ty, w = .arrayClass ty := good_of_word (List.mem_filter.mp h).2
theorem xw_goodIn {ws : List Cond} (h : ∀ w ∈ ws, w ∈ xw_G) : GoodIn xw_G ws := fun w hw => ⟨h w hw, xw_good (h w hw)⟩
theorem xn_tabs (w : Cond) (h : w ∈ xn_W) : w.onTables = true := by
  have h1 := (List.mem_filter.mp h).2
  cases w <;> first | rfl | (simp [xn_is] at h1)
theorem xn_warm (w : Cond) (h : w ∈ xn_W) {s U : State} (hW : s.WarmedH U.vm) (hs : va_Nw w s) : va_Nw w U := by
  have h1 := (List.mem_filter.mp h).2
  cases w with
  | fieldLinkNest => exact va_Nw.warmF hW hs
  | methodLinkNest => exact va_Nw.warmM hW hs
  | _ => simp [xn_is] at h1
/-! BASE: a judgement over abstract configurations (a world of cells, listed locals, an operand stack), its rows, and a small language of models -/
abbrev Ar : Type := Nat × (Nat → Int32)
abbrev KC : Type := Nat × Nat
abbrev MO (α : Type) : Type := Option (α × KC)
def xm_p {α : Type} (a : α) : MO α := some (a, (0, 0))
def xm_b {α β : Type} (x : MO α) (f : α → MO β) : MO β := match x with
  | none => none
  | some (a, k1) => match f a with
    | none => none
    | some (b, k2) => some (b, (k1.1 + k2.1, k1.2 + k2.2))
def xm_al {β : Type} (c n : Nat) (x : MO β) : MO β := match x with
  | none => none
  | some (b, k) => some (b, (c + k.1, n + k.2))
def xm_rd {β : Type} (a : Ar) (i : Int32) (f : Int32 → MO β) : MO β := if i < 0 ∨ a.1 ≤ i.toNatClampNeg then none else f (a.2 i.toNatClampNeg)
def xm_wr {β : Type} (a : Ar) (i x : Int32) (f : Ar → MO β) : MO β := if i < 0 ∨ a.1 ≤ i.toNatClampNeg then none else f (a.1, upd a.2 i.toNatClampNeg x)
def xm_na {β : Type} (n : Int32) (f : Ar → MO β) : MO β := if n < 0 ∨ 67108864 < n.toNatClampNeg then none else xm_al 1 n.toNatClampNeg (f (n.toNatClampNeg, fun _ => 0))
def xm_cp {β : Type} (x y : Ar) (sp dp n : Int32) (f : Ar → MO β) : MO β := if (sp < 0 ∨ dp < 0 ∨ n < 0) ∨ x.1 < sp.toNatClampNeg + n.toNatClampNeg ∨ y.1 < dp.toNatClampNeg + n.toNatClampNeg then none else f (y.1, va_cpy x.2 y.2 sp.toNatClampNeg dp.toNatClampNeg n.toNatClampNeg)
theorem xm_p_some {α : Type} {a b : α} {k : KC} (h : xm_p a = some (b, k)) : b = a ∧ k.1 = 0 ∧ k.2 = 0 := by
  unfold xm_p at h
  cases h
  exact ⟨rfl, rfl, rfl⟩
theorem xm_inl {α β γ : Type} {f : α → γ} {g : β → γ} {a : α} {o : γ} (h : Sum.elim f g (Sum.inl a) = o) : f a = o := h
theorem xm_inr {α β γ : Type} {f : α → γ} {g : β → γ} {b : β} {o : γ} (h : Sum.elim f g (Sum.inr b) = o) : g b = o := h
theorem xm_b_some {α β : Type} {x : MO α} {f : α → MO β} {b : β} {k : KC} (h : xm_b x f = some (b, k)) : ∃ (a : α) (k1 k2 : KC), x = some (a, k1) ∧ f a = some (b, k2) ∧ k.1 = k1.1 + k2.1 ∧ k.2 = k1.2 + k2.2 := by
  unfold xm_b at h
  cases x with
  | none => cases h
  | some y =>
    obtain ⟨a, k1⟩ := y
    cases hf : f a with
    | none => simp [hf] at h
    | some z =>
      obtain ⟨b2, k2⟩ := z
      simp only [hf] at h
      cases h
      exact ⟨a, k1, k2, rfl, hf, rfl, rfl⟩
theorem xm_b_of {α β : Type} {x : MO α} {f : α → MO β} {a : α} {k1 : KC} {b : β} {k2 : KC} (h : x = some (a, k1)) (hf : f a = some (b, k2)) : xm_b x f = some (b, (k1.1 + k2.1, k1.2 + k2.2)) := by
  subst h
  simp only [xm_b, hf]
theorem xm_al_some {β : Type} {c n : Nat} {x : MO β} {b : β} {k : KC} (h : xm_al c n x = some (b, k)) : ∃ k2 : KC, x = some (b, k2) ∧ k.1 = c + k2.1 ∧ k.2 = n + k2.2 := by
  unfold xm_al at h
  cases x with
  | none => cases h
  | some y =>
    obtain ⟨b2, k2⟩ := y
    cases h
    exact ⟨k2, rfl, rfl, rfl⟩
theorem xm_rd_some {β : Type} {a : Ar} {i : Int32} {f : Int32 → MO β} {o : β × KC} (h : xm_rd a i f = some o) : ∃ v : Int32, v = a.2 i.toNatClampNeg ∧ vp_in i a.1 ∧ f v = some o := by
  unfold xm_rd at h
  by_cases hc : i < 0 ∨ a.1 ≤ i.toNatClampNeg
  · rw [if_pos hc] at h; cases h
  · rw [if_neg hc] at h; exact ⟨_, rfl, hc, h⟩
theorem xm_wr_some {β : Type} {a : Ar} {i x : Int32} {f : Ar → MO β} {o : β × KC} (h : xm_wr a i x f = some o) : ∃ a' : Ar, a' = (a.1, upd a.2 i.toNatClampNeg x) ∧ vp_in i a.1 ∧ f a' = some o := by
  unfold xm_wr at h
  by_cases hc : i < 0 ∨ a.1 ≤ i.toNatClampNeg
  · rw [if_pos hc] at h; cases h
  · rw [if_neg hc] at h; exact ⟨_, rfl, hc, h⟩
theorem xm_na_some {β : Type} {n : Int32} {f : Ar → MO β} {b : β} {k : KC} (h : xm_na n f = some (b, k)) : ∃ (a' : Ar) (k2 : KC), a' = (n.toNatClampNeg, fun _ => 0) ∧ ¬ n < 0 ∧ n.toNatClampNeg ≤ 67108864 ∧ f a' = some (b, k2) ∧ k.1 = 1 + k2.1 ∧ k.2 = n.toNatClampNeg + k2.2 := by
  unfold xm_na at h
  by_cases hc : n < 0 ∨ 67108864 < n.toNatClampNeg
  · rw [if_pos hc] at h; cases h
  · rw [if_neg hc] at h
    obtain ⟨k2, h1, h2⟩ := xm_al_some h
    exact ⟨_, k2, rfl, fun q => hc (Or.inl q), Nat.not_lt.mp (fun q => hc (Or.inr q)), h1, h2⟩
def xm_cpok (x y : Ar) (sp dp n : Int32) : Prop := ¬ ((sp < 0 ∨ dp < 0 ∨ n < 0) ∨ x.1 < sp.toNatClampNeg + n.toNatClampNeg ∨ y.1 < dp.toNatClampNeg + n.toNatClampNeg)
theorem xm_cp_some {β : Type} {x y : Ar} {sp dp n : Int32} {f : Ar → MO β} {o : β × KC} (h : xm_cp x y sp dp n f = some o) : ∃ y' : Ar, y' = (y.1, va_cpy x.2 y.2 sp.toNatClampNeg dp.toNatClampNeg n.toNatClampNeg) ∧ xm_cpok x y sp dp n ∧ f y' = some o := by
  unfold xm_cp at h
  by_cases hc : (sp < 0 ∨ dp < 0 ∨ n < 0) ∨ x.1 < sp.toNatClampNeg + n.toNatClampNeg ∨ y.1 < dp.toNatClampNeg + n.toNatClampNeg
  · rw [if_pos hc] at h; cases h
  · rw [if_neg hc] at h; exact ⟨_, rfl, hc, h⟩
theorem xm_t {α : Sort _} {c : Prop} [Decidable c] {a b o : α} (h : (if c then a else b) = o) (hc : c) : a = o := by rw [if_pos hc] at h; exact h
theorem xm_f {α : Sort _} {c : Prop} [Decidable c] {a b o : α} (h : (if c then a else b) = o) (hc : ¬ c) : b = o := by rw [if_neg hc] at h; exact h
abbrev XT : Type := Program × Launch × Env × Room × State × MethodId × Array Value × List Frame × Method × Code × va_G × (Nat → Prop) × (State → Prop)
def XK (D : va_G) (cA : Nat → ClassId) (U : State) : Prop := va_K D vwCl [(cA 0, .int), (cA 1, .byte), (cA 2, .boolean)] U ∧ ∀ w ∈ xn_W, va_Nw w U
def XW (X : XT) (nL : Nat) (ws : va_W) (nc ns pc : Nat) (lv : List (Nat × Value)) (st : List Value) : Prop := match X with
  | (p, l, e, R, s, m, args, below, meth, c, D, A, Q) => ∀ (H : Heap) (locs : List Loc) (ls : Array Slot), va_P D vwCl ws H → va_D A ws → va_S A s.heap H locs → lv_has ls nL lv → W p l e R s m args below meth c H locs nc ns Q (F0 m pc ls st)
def XF (X : XT) (l0 : Launch) (D0 : va_G) (cA : Nat → ClassId) (cc : ByteArray) (nL : Nat) (ret : Option FieldType) (own : String) (fr lo mc ms : Nat) : Prop := match X with
  | (p, l, e, R, s, m, args, below, meth, c, D, A, Q) => l = l0 ∧ D = D0 ∧ p.tables.exec = Jvm.exec ∧ c.code = cc ∧ meth.sig.returnType = ret ∧ c.maxLocals = nL ∧ (∀ w ∈ xw_G, w.before args s = true) ∧ s.vm.findClass own = some m.cls ∧ meth.locks = false ∧ XK D cA s ∧ (∀ q, s.heap.size ≤ q → A q) ∧ fr ≤ R.frames ∧ lo ≤ R.locals ∧ mc ≤ R.cells ∧ ms ≤ R.slots
/-- a class of the table: its number, its fields, their types -/
def XC (ci : Nat) (C : String) (T : u_T) (N : Nat) (ty : Nat → FieldType) : Prop := vwCl[ci]? = some (C, T, N) ∧ (∀ k, k < N → parseFieldDescriptor (T k).2.2.1 = some (ty k)) ∧ (∀ a, a < N → ∀ b, b < N → a ≠ b → (T a).2.1 ≠ (T b).2.1)
section XR
variable {X : XT} {l0 : Launch} {D0 : va_G} {cA : Nat → ClassId} {cc : ByteArray} {nL : Nat} {ret : Option FieldType} {own : String} {fr lo mc ms : Nat}
variable {ws ws' : va_W} {nc ns pc : Nat} {lv lv' : List (Nat × Value)} {st : List Value}
theorem x_iconst (F : XF X l0 D0 cA cc nL ret own fr lo mc ms) {n : Int} {v : Int32} (hd : decode cc pc = .ok (.iconst n, 1)) (hv : Int32.ofInt n = v) (k : XW X nL ws nc ns (pc + 1) lv (.int v :: st)) : XW X nL ws nc ns pc lv st := by
  obtain ⟨p, l, e, R, s, m, args, below, meth, c, D, A, Q⟩ := X
  obtain ⟨rfl, rfl, hx, hb, -⟩ := F
  exact fun H locs ls hP hD hS hl => lv_iconst hx hb hd hv (k H locs ls hP hD hS hl)
theorem x_bipush (F : XF X l0 D0 cA cc nL ret own fr lo mc ms) {n : Int} {v : Int32} (hd : decode cc pc = .ok (.bipush n, 2)) (hv : (Int8.ofInt n).toInt32 = v) (k : XW X nL ws nc ns (pc + 2) lv (.int v :: st)) : XW X nL ws nc ns pc lv st := by
  obtain ⟨p, l, e, R, s, m, args, below, meth, c, D, A, Q⟩ := X
  obtain ⟨rfl, rfl, hx, hb, -⟩ := F
  exact fun H locs ls hP hD hS hl => lv_bipush hx hb hd hv (k H locs ls hP hD hS hl)
theorem x_sipush (F : XF X l0 D0 cA cc nL ret own fr lo mc ms) {n : Int} {v : Int32} (hd : decode cc pc = .ok (.sipush n, 3)) (hv : (Int16.ofInt n).toInt32 = v) (k : XW X nL ws nc ns (pc + 3) lv (.int v :: st)) : XW X nL ws nc ns pc lv st := by
  obtain ⟨p, l, e, R, s, m, args, below, meth, c, D, A, Q⟩ := X
  obtain ⟨rfl, rfl, hx, hb, -⟩ := F
  exact fun H locs ls hP hD hS hl => lv_sipush hx hb hd hv (k H locs ls hP hD hS hl)
theorem x_lconst (F : XF X l0 D0 cA cc nL ret own fr lo mc ms) {n : Fin 2} {v : Int64} (hd : decode cc pc = .ok (.lconst n, 1)) (hv : Int64.ofNat (n : Nat) = v) (k : XW X nL ws nc ns (pc + 1) lv (.long v :: st)) : XW X nL ws nc ns pc lv st := by
  obtain ⟨p, l, e, R, s, m, args, below, meth, c, D, A, Q⟩ := X
  obtain ⟨rfl, rfl, hx, hb, -⟩ := F
  exact fun H locs ls hP hD hS hl => lv_lconst hx hb hd hv (k H locs ls hP hD hS hl)
theorem x_ldc (F : XF X l0 D0 cA cc nL ret own fr lo mc ms) {idx : Nat} {v : Int32} (hc : Cond.constant own idx v ∈ xw_G) (hd : decode cc pc = .ok (.ldc idx, 2)) (k : XW X nL ws nc ns (pc + 2) lv (.int v :: st)) : XW X nL ws nc ns pc lv st := by
  obtain ⟨p, l, e, R, s, m, args, below, meth, c, D, A, Q⟩ := X
  obtain ⟨rfl, rfl, hx, hb, -, -, hts, hown, -⟩ := F
  exact fun H locs ls hP hD hS hl => lv_ldc hx hb hown (hts _ hc) hd (k H locs ls hP hD hS hl)
theorem x_ldc2 (F : XF X l0 D0 cA cc nL ret own fr lo mc ms) {idx : Nat} {v : Int64} (hc : Cond.constantLong own idx v ∈ xw_G) (hd : decode cc pc = .ok (.ldc2_w idx, 3)) (k : XW X nL ws nc ns (pc + 3) lv (.long v :: st)) : XW X nL ws nc ns pc lv st := by
  obtain ⟨p, l, e, R, s, m, args, below, meth, c, D, A, Q⟩ := X
  obtain ⟨rfl, rfl, hx, hb, -, -, hts, hown, -⟩ := F
  exact fun H locs ls hP hD hS hl => lv_ldc2 hx hb hown (hts _ hc) hd (k H locs ls hP hD hS hl)
theorem x_iload_n (F : XF X l0 D0 cA cc nL ret own fr lo mc ms) {j : Fin 4} {i : Nat} {x : Int32} (hd : decode cc pc = .ok (.iload_n j, 1)) (q : Nat) (hi : (j : Nat) = i) (hq : lv[q]? = some (i, .int x)) (k : XW X nL ws nc ns (pc + 1) lv (.int x :: st)) : XW X nL ws nc ns pc lv st := by
  obtain ⟨p, l, e, R, s, m, args, below, meth, c, D, A, Q⟩ := X
  obtain ⟨rfl, rfl, hx, hb, -⟩ := F
  exact fun H locs ls hP hD hS hl => lv_iload_n hx hb hd hi (lv_at hl q hq) (k H locs ls hP hD hS hl)
theorem x_iload (F : XF X l0 D0 cA cc nL ret own fr lo mc ms) {i : Nat} {x : Int32} (hd : decode cc pc = .ok (.iload i, 2)) (q : Nat) (hq : lv[q]? = some (i, .int x)) (k : XW X nL ws nc ns (pc + 2) lv (.int x :: st)) : XW X nL ws nc ns pc lv st := by
  obtain ⟨p, l, e, R, s, m, args, below, meth, c, D, A, Q⟩ := X
  obtain ⟨rfl, rfl, hx, hb, -⟩ := F
  exact fun H locs ls hP hD hS hl => lv_iload hx hb hd (lv_at hl q hq) (k H locs ls hP hD hS hl)
theorem x_lload_n (F : XF X l0 D0 cA cc nL ret own fr lo mc ms) {j : Fin 4} {i : Nat} {x : Int64} (hd : decode cc pc = .ok (.lload_n j, 1)) (q : Nat) (hi : (j : Nat) = i) (hq : lv[q]? = some (i, .long x)) (k : XW X nL ws nc ns (pc + 1) lv (.long x :: st)) : XW X nL ws nc ns pc lv st := by
  obtain ⟨p, l, e, R, s, m, args, below, meth, c, D, A, Q⟩ := X
  obtain ⟨rfl, rfl, hx, hb, -⟩ := F
  exact fun H locs ls hP hD hS hl => lv_lload_n hx hb hd hi (lv_at hl q hq) (k H locs ls hP hD hS hl)
theorem x_lload (F : XF X l0 D0 cA cc nL ret own fr lo mc ms) {i : Nat} {x : Int64} (hd : decode cc pc = .ok (.lload i, 2)) (q : Nat) (hq : lv[q]? = some (i, .long x)) (k : XW X nL ws nc ns (pc + 2) lv (.long x :: st)) : XW X nL ws nc ns pc lv st := by
  obtain ⟨p, l, e, R, s, m, args, below, meth, c, D, A, Q⟩ := X
  obtain ⟨rfl, rfl, hx, hb, -⟩ := F
  exact fun H locs ls hP hD hS hl => lv_lload hx hb hd (lv_at hl q hq) (k H locs ls hP hD hS hl)
theorem x_aload_n (F : XF X l0 D0 cA cc nL ret own fr lo mc ms) {j : Fin 4} {i : Nat} {x : Nat} (hd : decode cc pc = .ok (.aload_n j, 1)) (q : Nat) (hi : (j : Nat) = i) (hq : lv[q]? = some (i, .ref x)) (k : XW X nL ws nc ns (pc + 1) lv (.ref x :: st)) : XW X nL ws nc ns pc lv st := by
  obtain ⟨p, l, e, R, s, m, args, below, meth, c, D, A, Q⟩ := X
  obtain ⟨rfl, rfl, hx, hb, -⟩ := F
  exact fun H locs ls hP hD hS hl => lv_aload_n hx hb hd hi (lv_at hl q hq) (k H locs ls hP hD hS hl)
theorem x_aload (F : XF X l0 D0 cA cc nL ret own fr lo mc ms) {i : Nat} {x : Nat} (hd : decode cc pc = .ok (.aload i, 2)) (q : Nat) (hq : lv[q]? = some (i, .ref x)) (k : XW X nL ws nc ns (pc + 2) lv (.ref x :: st)) : XW X nL ws nc ns pc lv st := by
  obtain ⟨p, l, e, R, s, m, args, below, meth, c, D, A, Q⟩ := X
  obtain ⟨rfl, rfl, hx, hb, -⟩ := F
  exact fun H locs ls hP hD hS hl => lv_aload hx hb hd (lv_at hl q hq) (k H locs ls hP hD hS hl)
theorem x_istore_n (F : XF X l0 D0 cA cc nL ret own fr lo mc ms) {j : Fin 4} {i : Nat} {x : Int32} (hd : decode cc pc = .ok (.istore_n j, 1)) (hi : (j : Nat) = i) (hn : i < nL) (hl' : (i, Value.int x) :: lv.filter (fun q => !(q.1 == i) && !(q.1 + 1 == i && q.2.category == 2)) = lv') (k : XW X nL ws nc ns (pc + 1) lv' st) : XW X nL ws nc ns pc lv (.int x :: st) := by
  obtain ⟨p, l, e, R, s, m, args, below, meth, c, D, A, Q⟩ := X
  obtain ⟨rfl, rfl, hx, hb, -⟩ := F
  exact fun H locs ls hP hD hS hl => lv_istore_n hx hb hd hi hl hn hl' (fun ls' h' => k H locs ls' hP hD hS h')
theorem x_istore (F : XF X l0 D0 cA cc nL ret own fr lo mc ms) {i : Nat} {x : Int32} (hd : decode cc pc = .ok (.istore i, 2)) (hn : i < nL) (hl' : (i, Value.int x) :: lv.filter (fun q => !(q.1 == i) && !(q.1 + 1 == i && q.2.category == 2)) = lv') (k : XW X nL ws nc ns (pc + 2) lv' st) : XW X nL ws nc ns pc lv (.int x :: st) := by
  obtain ⟨p, l, e, R, s, m, args, below, meth, c, D, A, Q⟩ := X
  obtain ⟨rfl, rfl, hx, hb, -⟩ := F
  exact fun H locs ls hP hD hS hl => lv_istore hx hb hd hl hn hl' (fun ls' h' => k H locs ls' hP hD hS h')
theorem x_lstore_n (F : XF X l0 D0 cA cc nL ret own fr lo mc ms) {j : Fin 4} {i : Nat} {x : Int64} (hd : decode cc pc = .ok (.lstore_n j, 1)) (hi : (j : Nat) = i) (hn : i + 1 < nL) (hl' : (i, Value.long x) :: lv.filter (fun q => !(q.1 == i) && (!(q.1 == i + 1) && !(q.1 + 1 == i && q.2.category == 2))) = lv') (k : XW X nL ws nc ns (pc + 1) lv' st) : XW X nL ws nc ns pc lv (.long x :: st) := by
  obtain ⟨p, l, e, R, s, m, args, below, meth, c, D, A, Q⟩ := X
  obtain ⟨rfl, rfl, hx, hb, -⟩ := F
  exact fun H locs ls hP hD hS hl => lv_lstore_n hx hb hd hi hl hn hl' (fun ls' h' => k H locs ls' hP hD hS h')
theorem x_lstore (F : XF X l0 D0 cA cc nL ret own fr lo mc ms) {i : Nat} {x : Int64} (hd : decode cc pc = .ok (.lstore i, 2)) (hn : i + 1 < nL) (hl' : (i, Value.long x) :: lv.filter (fun q => !(q.1 == i) && (!(q.1 == i + 1) && !(q.1 + 1 == i && q.2.category == 2))) = lv') (k : XW X nL ws nc ns (pc + 2) lv' st) : XW X nL ws nc ns pc lv (.long x :: st) := by
  obtain ⟨p, l, e, R, s, m, args, below, meth, c, D, A, Q⟩ := X
  obtain ⟨rfl, rfl, hx, hb, -⟩ := F
  exact fun H locs ls hP hD hS hl => lv_lstore hx hb hd hl hn hl' (fun ls' h' => k H locs ls' hP hD hS h')
theorem x_astore_n (F : XF X l0 D0 cA cc nL ret own fr lo mc ms) {j : Fin 4} {i : Nat} {x : Nat} (hd : decode cc pc = .ok (.astore_n j, 1)) (hi : (j : Nat) = i) (hn : i < nL) (hl' : (i, Value.ref x) :: lv.filter (fun q => !(q.1 == i) && !(q.1 + 1 == i && q.2.category == 2)) = lv') (k : XW X nL ws nc ns (pc + 1) lv' st) : XW X nL ws nc ns pc lv (.ref x :: st) := by
  obtain ⟨p, l, e, R, s, m, args, below, meth, c, D, A, Q⟩ := X
  obtain ⟨rfl, rfl, hx, hb, -⟩ := F
  exact fun H locs ls hP hD hS hl => lv_astore_n hx hb hd hi hl hn hl' (fun ls' h' => k H locs ls' hP hD hS h')
theorem x_astore (F : XF X l0 D0 cA cc nL ret own fr lo mc ms) {i : Nat} {x : Nat} (hd : decode cc pc = .ok (.astore i, 2)) (hn : i < nL) (hl' : (i, Value.ref x) :: lv.filter (fun q => !(q.1 == i) && !(q.1 + 1 == i && q.2.category == 2)) = lv') (k : XW X nL ws nc ns (pc + 2) lv' st) : XW X nL ws nc ns pc lv (.ref x :: st) := by
  obtain ⟨p, l, e, R, s, m, args, below, meth, c, D, A, Q⟩ := X
  obtain ⟨rfl, rfl, hx, hb, -⟩ := F
  exact fun H locs ls hP hD hS hl => lv_astore hx hb hd hl hn hl' (fun ls' h' => k H locs ls' hP hD hS h')
theorem x_iinc (F : XF X l0 D0 cA cc nL ret own fr lo mc ms) {i : Nat} {n : Int} {x v : Int32} (hd : decode cc pc = .ok (.iinc i n, 3)) (q : Nat) (hq : lv[q]? = some (i, .int x)) (hv : x + Int32.ofInt n = v) (hn : i < nL) (hl' : (i, Value.int v) :: lv.filter (fun q => !(q.1 == i) && !(q.1 + 1 == i && q.2.category == 2)) = lv') (k : XW X nL ws nc ns (pc + 3) lv' st) : XW X nL ws nc ns pc lv st := by
  obtain ⟨p, l, e, R, s, m, args, below, meth, c, D, A, Q⟩ := X
  obtain ⟨rfl, rfl, hx, hb, -⟩ := F
  exact fun H locs ls hP hD hS hl => lv_iinc hx hb hd hl (k := q) hq hv hn hl' (fun ls' h' => k H locs ls' hP hD hS h')
theorem x_iadd (F : XF X l0 D0 cA cc nL ret own fr lo mc ms) {x y : Int32} (hd : decode cc pc = .ok (.iadd, 1)) (k : XW X nL ws nc ns (pc + 1) lv (.int (x + y) :: st)) : XW X nL ws nc ns pc lv (.int y :: .int x :: st) := by
  obtain ⟨p, l, e, R, s, m, args, below, meth, c, D, A, Q⟩ := X
  obtain ⟨rfl, rfl, hx, hb, -⟩ := F
  exact fun H locs ls hP hD hS hl => lv_iadd hx hb hd (k H locs ls hP hD hS hl)
theorem x_isub (F : XF X l0 D0 cA cc nL ret own fr lo mc ms) {x y : Int32} (hd : decode cc pc = .ok (.isub, 1)) (k : XW X nL ws nc ns (pc + 1) lv (.int (x - y) :: st)) : XW X nL ws nc ns pc lv (.int y :: .int x :: st) := by
  obtain ⟨p, l, e, R, s, m, args, below, meth, c, D, A, Q⟩ := X
  obtain ⟨rfl, rfl, hx, hb, -⟩ := F
  exact fun H locs ls hP hD hS hl => lv_isub hx hb hd (k H locs ls hP hD hS hl)
theorem x_imul (F : XF X l0 D0 cA cc nL ret own fr lo mc ms) {x y : Int32} (hd : decode cc pc = .ok (.imul, 1)) (k : XW X nL ws nc ns (pc + 1) lv (.int (x * y) :: st)) : XW X nL ws nc ns pc lv (.int y :: .int x :: st) := by
  obtain ⟨p, l, e, R, s, m, args, below, meth, c, D, A, Q⟩ := X
  obtain ⟨rfl, rfl, hx, hb, -⟩ := F
  exact fun H locs ls hP hD hS hl => lv_imul hx hb hd (k H locs ls hP hD hS hl)
theorem x_iand (F : XF X l0 D0 cA cc nL ret own fr lo mc ms) {x y : Int32} (hd : decode cc pc = .ok (.iand, 1)) (k : XW X nL ws nc ns (pc + 1) lv (.int (x &&& y) :: st)) : XW X nL ws nc ns pc lv (.int y :: .int x :: st) := by
  obtain ⟨p, l, e, R, s, m, args, below, meth, c, D, A, Q⟩ := X
  obtain ⟨rfl, rfl, hx, hb, -⟩ := F
  exact fun H locs ls hP hD hS hl => lv_iand hx hb hd (k H locs ls hP hD hS hl)
theorem x_ior (F : XF X l0 D0 cA cc nL ret own fr lo mc ms) {x y : Int32} (hd : decode cc pc = .ok (.ior, 1)) (k : XW X nL ws nc ns (pc + 1) lv (.int (x ||| y) :: st)) : XW X nL ws nc ns pc lv (.int y :: .int x :: st) := by
  obtain ⟨p, l, e, R, s, m, args, below, meth, c, D, A, Q⟩ := X
  obtain ⟨rfl, rfl, hx, hb, -⟩ := F
  exact fun H locs ls hP hD hS hl => lv_ior hx hb hd (k H locs ls hP hD hS hl)
theorem x_ixor (F : XF X l0 D0 cA cc nL ret own fr lo mc ms) {x y : Int32} (hd : decode cc pc = .ok (.ixor, 1)) (k : XW X nL ws nc ns (pc + 1) lv (.int (x ^^^ y) :: st)) : XW X nL ws nc ns pc lv (.int y :: .int x :: st) := by
  obtain ⟨p, l, e, R, s, m, args, below, meth, c, D, A, Q⟩ := X
  obtain ⟨rfl, rfl, hx, hb, -⟩ := F
  exact fun H locs ls hP hD hS hl => lv_ixor hx hb hd (k H locs ls hP hD hS hl)
theorem x_ladd (F : XF X l0 D0 cA cc nL ret own fr lo mc ms) {x y : Int64} (hd : decode cc pc = .ok (.ladd, 1)) (k : XW X nL ws nc ns (pc + 1) lv (.long (x + y) :: st)) : XW X nL ws nc ns pc lv (.long y :: .long x :: st) := by
  obtain ⟨p, l, e, R, s, m, args, below, meth, c, D, A, Q⟩ := X
  obtain ⟨rfl, rfl, hx, hb, -⟩ := F
  exact fun H locs ls hP hD hS hl => lv_ladd hx hb hd (k H locs ls hP hD hS hl)
theorem x_lsub (F : XF X l0 D0 cA cc nL ret own fr lo mc ms) {x y : Int64} (hd : decode cc pc = .ok (.lsub, 1)) (k : XW X nL ws nc ns (pc + 1) lv (.long (x - y) :: st)) : XW X nL ws nc ns pc lv (.long y :: .long x :: st) := by
  obtain ⟨p, l, e, R, s, m, args, below, meth, c, D, A, Q⟩ := X
  obtain ⟨rfl, rfl, hx, hb, -⟩ := F
  exact fun H locs ls hP hD hS hl => lv_lsub hx hb hd (k H locs ls hP hD hS hl)
theorem x_lmul (F : XF X l0 D0 cA cc nL ret own fr lo mc ms) {x y : Int64} (hd : decode cc pc = .ok (.lmul, 1)) (k : XW X nL ws nc ns (pc + 1) lv (.long (x * y) :: st)) : XW X nL ws nc ns pc lv (.long y :: .long x :: st) := by
  obtain ⟨p, l, e, R, s, m, args, below, meth, c, D, A, Q⟩ := X
  obtain ⟨rfl, rfl, hx, hb, -⟩ := F
  exact fun H locs ls hP hD hS hl => lv_lmul hx hb hd (k H locs ls hP hD hS hl)
theorem x_land (F : XF X l0 D0 cA cc nL ret own fr lo mc ms) {x y : Int64} (hd : decode cc pc = .ok (.land, 1)) (k : XW X nL ws nc ns (pc + 1) lv (.long (x &&& y) :: st)) : XW X nL ws nc ns pc lv (.long y :: .long x :: st) := by
  obtain ⟨p, l, e, R, s, m, args, below, meth, c, D, A, Q⟩ := X
  obtain ⟨rfl, rfl, hx, hb, -⟩ := F
  exact fun H locs ls hP hD hS hl => lv_land hx hb hd (k H locs ls hP hD hS hl)
theorem x_lor (F : XF X l0 D0 cA cc nL ret own fr lo mc ms) {x y : Int64} (hd : decode cc pc = .ok (.lor, 1)) (k : XW X nL ws nc ns (pc + 1) lv (.long (x ||| y) :: st)) : XW X nL ws nc ns pc lv (.long y :: .long x :: st) := by
  obtain ⟨p, l, e, R, s, m, args, below, meth, c, D, A, Q⟩ := X
  obtain ⟨rfl, rfl, hx, hb, -⟩ := F
  exact fun H locs ls hP hD hS hl => lv_lor hx hb hd (k H locs ls hP hD hS hl)
theorem x_lxor (F : XF X l0 D0 cA cc nL ret own fr lo mc ms) {x y : Int64} (hd : decode cc pc = .ok (.lxor, 1)) (k : XW X nL ws nc ns (pc + 1) lv (.long (x ^^^ y) :: st)) : XW X nL ws nc ns pc lv (.long y :: .long x :: st) := by
  obtain ⟨p, l, e, R, s, m, args, below, meth, c, D, A, Q⟩ := X
  obtain ⟨rfl, rfl, hx, hb, -⟩ := F
  exact fun H locs ls hP hD hS hl => lv_lxor hx hb hd (k H locs ls hP hD hS hl)
theorem x_ishl (F : XF X l0 D0 cA cc nL ret own fr lo mc ms) {x y : Int32} (hd : decode cc pc = .ok (.ishl, 1)) (k : XW X nL ws nc ns (pc + 1) lv (.int (x <<< (y &&& 31)) :: st)) : XW X nL ws nc ns pc lv (.int y :: .int x :: st) := by
  obtain ⟨p, l, e, R, s, m, args, below, meth, c, D, A, Q⟩ := X
  obtain ⟨rfl, rfl, hx, hb, -⟩ := F
  exact fun H locs ls hP hD hS hl => lv_ishl hx hb hd (k H locs ls hP hD hS hl)
theorem x_ishr (F : XF X l0 D0 cA cc nL ret own fr lo mc ms) {x y : Int32} (hd : decode cc pc = .ok (.ishr, 1)) (k : XW X nL ws nc ns (pc + 1) lv (.int (x >>> (y &&& 31)) :: st)) : XW X nL ws nc ns pc lv (.int y :: .int x :: st) := by
  obtain ⟨p, l, e, R, s, m, args, below, meth, c, D, A, Q⟩ := X
  obtain ⟨rfl, rfl, hx, hb, -⟩ := F
  exact fun H locs ls hP hD hS hl => lv_ishr hx hb hd (k H locs ls hP hD hS hl)
theorem x_i2l (F : XF X l0 D0 cA cc nL ret own fr lo mc ms) {x : Int32} {v : Int64} (hd : decode cc pc = .ok (.i2l, 1)) (hv : x.toInt64 = v) (k : XW X nL ws nc ns (pc + 1) lv (.long v :: st)) : XW X nL ws nc ns pc lv (.int x :: st) := by
  obtain ⟨p, l, e, R, s, m, args, below, meth, c, D, A, Q⟩ := X
  obtain ⟨rfl, rfl, hx, hb, -⟩ := F
  exact fun H locs ls hP hD hS hl => lv_i2l hx hb hd hv (k H locs ls hP hD hS hl)
theorem x_l2i (F : XF X l0 D0 cA cc nL ret own fr lo mc ms) {x : Int64} {v : Int32} (hd : decode cc pc = .ok (.l2i, 1)) (hv : x.toInt32 = v) (k : XW X nL ws nc ns (pc + 1) lv (.int v :: st)) : XW X nL ws nc ns pc lv (.long x :: st) := by
  obtain ⟨p, l, e, R, s, m, args, below, meth, c, D, A, Q⟩ := X
  obtain ⟨rfl, rfl, hx, hb, -⟩ := F
  exact fun H locs ls hP hD hS hl => lv_l2i hx hb hd hv (k H locs ls hP hD hS hl)
theorem x_iushr (F : XF X l0 D0 cA cc nL ret own fr lo mc ms) {x y v : Int32} (hd : decode cc pc = .ok (.iushr, 1)) (hv : (x.toUInt32 >>> (y.toUInt32 &&& Int32.toUInt32 31)).toInt32 = v) (k : XW X nL ws nc ns (pc + 1) lv (.int v :: st)) : XW X nL ws nc ns pc lv (.int y :: .int x :: st) := by
  obtain ⟨p, l, e, R, s, m, args, below, meth, c, D, A, Q⟩ := X
  obtain ⟨rfl, rfl, hx, hb, -⟩ := F
  exact fun H locs ls hP hD hS hl => lv_iushr hx hb hd hv (k H locs ls hP hD hS hl)
theorem x_lushr (F : XF X l0 D0 cA cc nL ret own fr lo mc ms) {x v : Int64} {y : Int32} (hd : decode cc pc = .ok (.lushr, 1)) (hv : (x.toUInt64 >>> (y.toInt64.toUInt64 &&& Int64.toUInt64 63)).toInt64 = v) (k : XW X nL ws nc ns (pc + 1) lv (.long v :: st)) : XW X nL ws nc ns pc lv (.int y :: .long x :: st) := by
  obtain ⟨p, l, e, R, s, m, args, below, meth, c, D, A, Q⟩ := X
  obtain ⟨rfl, rfl, hx, hb, -⟩ := F
  exact fun H locs ls hP hD hS hl => lv_lushr hx hb hd hv (k H locs ls hP hD hS hl)
theorem x_dup (F : XF X l0 D0 cA cc nL ret own fr lo mc ms) {v : Value} (hd : decode cc pc = .ok (.dup, 1)) (hc : v.category = 1) (k : XW X nL ws nc ns (pc + 1) lv (v :: v :: st)) : XW X nL ws nc ns pc lv (v :: st) := by
  obtain ⟨p, l, e, R, s, m, args, below, meth, c, D, A, Q⟩ := X
  obtain ⟨rfl, rfl, hx, hb, -⟩ := F
  exact fun H locs ls hP hD hS hl => lv_dup hx hb hd hc (k H locs ls hP hD hS hl)
theorem x_pop (F : XF X l0 D0 cA cc nL ret own fr lo mc ms) {v : Value} (hd : decode cc pc = .ok (.pop, 1)) (hc : v.category = 1) (k : XW X nL ws nc ns (pc + 1) lv st) : XW X nL ws nc ns pc lv (v :: st) := by
  obtain ⟨p, l, e, R, s, m, args, below, meth, c, D, A, Q⟩ := X
  obtain ⟨rfl, rfl, hx, hb, -⟩ := F
  exact fun H locs ls hP hD hS hl => lv_pop hx hb hd hc (k H locs ls hP hD hS hl)
theorem x_dup_x1 (F : XF X l0 D0 cA cc nL ret own fr lo mc ms) {v w : Value} (hd : decode cc pc = .ok (.dup_x1, 1)) (hc : v.category = 1) (hw : w.category = 1) (k : XW X nL ws nc ns (pc + 1) lv (v :: w :: v :: st)) : XW X nL ws nc ns pc lv (v :: w :: st) := by
  obtain ⟨p, l, e, R, s, m, args, below, meth, c, D, A, Q⟩ := X
  obtain ⟨rfl, rfl, hx, hb, -⟩ := F
  exact fun H locs ls hP hD hS hl => lv_dup_x1 hx hb hd hc hw (k H locs ls hP hD hS hl)
theorem x_dup2 (F : XF X l0 D0 cA cc nL ret own fr lo mc ms) {v w : Value} (hd : decode cc pc = .ok (.dup2, 1)) (hc : v.category = 1) (hw : w.category = 1) (k : XW X nL ws nc ns (pc + 1) lv (v :: w :: v :: w :: st)) : XW X nL ws nc ns pc lv (v :: w :: st) := by
  obtain ⟨p, l, e, R, s, m, args, below, meth, c, D, A, Q⟩ := X
  obtain ⟨rfl, rfl, hx, hb, -⟩ := F
  exact fun H locs ls hP hD hS hl => lv_dup2_11 hx hb hd hc hw (k H locs ls hP hD hS hl)
theorem x_if_eq (F : XF X l0 D0 cA cc nL ret own fr lo mc ms) {x : Int32} {off : Int} (tgt : Nat) (hd : decode cc pc = .ok (.ifCond .eq off, 3)) (ht : (pc : Int) + off = (tgt : Int)) (kt : x = 0 → XW X nL ws nc ns tgt lv st) (kf : ¬ x = 0 → XW X nL ws nc ns (pc + 3) lv st) : XW X nL ws nc ns pc lv (.int x :: st) := by
  obtain ⟨p, l, e, R, s, m, args, below, meth, c, D, A, Q⟩ := X
  obtain ⟨rfl, rfl, hx, hb, -⟩ := F
  exact fun H locs ls hP hD hS hl => lv_if_eq hx hb hd ht (fun h => kt h H locs ls hP hD hS hl) (fun h => kf h H locs ls hP hD hS hl)
theorem x_icmp_eq (F : XF X l0 D0 cA cc nL ret own fr lo mc ms) {x y : Int32} {off : Int} (tgt : Nat) (hd : decode cc pc = .ok (.if_icmp .eq off, 3)) (ht : (pc : Int) + off = (tgt : Int)) (kt : x = y → XW X nL ws nc ns tgt lv st) (kf : ¬ x = y → XW X nL ws nc ns (pc + 3) lv st) : XW X nL ws nc ns pc lv (.int y :: .int x :: st) := by
  obtain ⟨p, l, e, R, s, m, args, below, meth, c, D, A, Q⟩ := X
  obtain ⟨rfl, rfl, hx, hb, -⟩ := F
  exact fun H locs ls hP hD hS hl => lv_icmp_eq hx hb hd ht (fun h => kt h H locs ls hP hD hS hl) (fun h => kf h H locs ls hP hD hS hl)
theorem x_if_ne (F : XF X l0 D0 cA cc nL ret own fr lo mc ms) {x : Int32} {off : Int} (tgt : Nat) (hd : decode cc pc = .ok (.ifCond .ne off, 3)) (ht : (pc : Int) + off = (tgt : Int)) (kt : ¬ x = 0 → XW X nL ws nc ns tgt lv st) (kf : x = 0 → XW X nL ws nc ns (pc + 3) lv st) : XW X nL ws nc ns pc lv (.int x :: st) := by
  obtain ⟨p, l, e, R, s, m, args, below, meth, c, D, A, Q⟩ := X
  obtain ⟨rfl, rfl, hx, hb, -⟩ := F
  exact fun H locs ls hP hD hS hl => lv_if_ne hx hb hd ht (fun h => kt h H locs ls hP hD hS hl) (fun h => kf h H locs ls hP hD hS hl)
theorem x_icmp_ne (F : XF X l0 D0 cA cc nL ret own fr lo mc ms) {x y : Int32} {off : Int} (tgt : Nat) (hd : decode cc pc = .ok (.if_icmp .ne off, 3)) (ht : (pc : Int) + off = (tgt : Int)) (kt : ¬ x = y → XW X nL ws nc ns tgt lv st) (kf : x = y → XW X nL ws nc ns (pc + 3) lv st) : XW X nL ws nc ns pc lv (.int y :: .int x :: st) := by
  obtain ⟨p, l, e, R, s, m, args, below, meth, c, D, A, Q⟩ := X
  obtain ⟨rfl, rfl, hx, hb, -⟩ := F
  exact fun H locs ls hP hD hS hl => lv_icmp_ne hx hb hd ht (fun h => kt h H locs ls hP hD hS hl) (fun h => kf h H locs ls hP hD hS hl)
theorem x_if_lt (F : XF X l0 D0 cA cc nL ret own fr lo mc ms) {x : Int32} {off : Int} (tgt : Nat) (hd : decode cc pc = .ok (.ifCond .lt off, 3)) (ht : (pc : Int) + off = (tgt : Int)) (kt : x < 0 → XW X nL ws nc ns tgt lv st) (kf : ¬ x < 0 → XW X nL ws nc ns (pc + 3) lv st) : XW X nL ws nc ns pc lv (.int x :: st) := by
  obtain ⟨p, l, e, R, s, m, args, below, meth, c, D, A, Q⟩ := X
  obtain ⟨rfl, rfl, hx, hb, -⟩ := F
  exact fun H locs ls hP hD hS hl => lv_if_lt hx hb hd ht (fun h => kt h H locs ls hP hD hS hl) (fun h => kf h H locs ls hP hD hS hl)
theorem x_icmp_lt (F : XF X l0 D0 cA cc nL ret own fr lo mc ms) {x y : Int32} {off : Int} (tgt : Nat) (hd : decode cc pc = .ok (.if_icmp .lt off, 3)) (ht : (pc : Int) + off = (tgt : Int)) (kt : x < y → XW X nL ws nc ns tgt lv st) (kf : ¬ x < y → XW X nL ws nc ns (pc + 3) lv st) : XW X nL ws nc ns pc lv (.int y :: .int x :: st) := by
  obtain ⟨p, l, e, R, s, m, args, below, meth, c, D, A, Q⟩ := X
  obtain ⟨rfl, rfl, hx, hb, -⟩ := F
  exact fun H locs ls hP hD hS hl => lv_icmp_lt hx hb hd ht (fun h => kt h H locs ls hP hD hS hl) (fun h => kf h H locs ls hP hD hS hl)
theorem x_if_ge (F : XF X l0 D0 cA cc nL ret own fr lo mc ms) {x : Int32} {off : Int} (tgt : Nat) (hd : decode cc pc = .ok (.ifCond .ge off, 3)) (ht : (pc : Int) + off = (tgt : Int)) (kt : 0 ≤ x → XW X nL ws nc ns tgt lv st) (kf : ¬ 0 ≤ x → XW X nL ws nc ns (pc + 3) lv st) : XW X nL ws nc ns pc lv (.int x :: st) := by
  obtain ⟨p, l, e, R, s, m, args, below, meth, c, D, A, Q⟩ := X
  obtain ⟨rfl, rfl, hx, hb, -⟩ := F
  exact fun H locs ls hP hD hS hl => lv_if_ge hx hb hd ht (fun h => kt h H locs ls hP hD hS hl) (fun h => kf h H locs ls hP hD hS hl)
theorem x_icmp_ge (F : XF X l0 D0 cA cc nL ret own fr lo mc ms) {x y : Int32} {off : Int} (tgt : Nat) (hd : decode cc pc = .ok (.if_icmp .ge off, 3)) (ht : (pc : Int) + off = (tgt : Int)) (kt : y ≤ x → XW X nL ws nc ns tgt lv st) (kf : ¬ y ≤ x → XW X nL ws nc ns (pc + 3) lv st) : XW X nL ws nc ns pc lv (.int y :: .int x :: st) := by
  obtain ⟨p, l, e, R, s, m, args, below, meth, c, D, A, Q⟩ := X
  obtain ⟨rfl, rfl, hx, hb, -⟩ := F
  exact fun H locs ls hP hD hS hl => lv_icmp_ge hx hb hd ht (fun h => kt h H locs ls hP hD hS hl) (fun h => kf h H locs ls hP hD hS hl)
theorem x_if_gt (F : XF X l0 D0 cA cc nL ret own fr lo mc ms) {x : Int32} {off : Int} (tgt : Nat) (hd : decode cc pc = .ok (.ifCond .gt off, 3)) (ht : (pc : Int) + off = (tgt : Int)) (kt : 0 < x → XW X nL ws nc ns tgt lv st) (kf : ¬ 0 < x → XW X nL ws nc ns (pc + 3) lv st) : XW X nL ws nc ns pc lv (.int x :: st) := by
  obtain ⟨p, l, e, R, s, m, args, below, meth, c, D, A, Q⟩ := X
  obtain ⟨rfl, rfl, hx, hb, -⟩ := F
  exact fun H locs ls hP hD hS hl => lv_if_gt hx hb hd ht (fun h => kt h H locs ls hP hD hS hl) (fun h => kf h H locs ls hP hD hS hl)
theorem x_icmp_gt (F : XF X l0 D0 cA cc nL ret own fr lo mc ms) {x y : Int32} {off : Int} (tgt : Nat) (hd : decode cc pc = .ok (.if_icmp .gt off, 3)) (ht : (pc : Int) + off = (tgt : Int)) (kt : y < x → XW X nL ws nc ns tgt lv st) (kf : ¬ y < x → XW X nL ws nc ns (pc + 3) lv st) : XW X nL ws nc ns pc lv (.int y :: .int x :: st) := by
  obtain ⟨p, l, e, R, s, m, args, below, meth, c, D, A, Q⟩ := X
  obtain ⟨rfl, rfl, hx, hb, -⟩ := F
  exact fun H locs ls hP hD hS hl => lv_icmp_gt hx hb hd ht (fun h => kt h H locs ls hP hD hS hl) (fun h => kf h H locs ls hP hD hS hl)
theorem x_if_le (F : XF X l0 D0 cA cc nL ret own fr lo mc ms) {x : Int32} {off : Int} (tgt : Nat) (hd : decode cc pc = .ok (.ifCond .le off, 3)) (ht : (pc : Int) + off = (tgt : Int)) (kt : x ≤ 0 → XW X nL ws nc ns tgt lv st) (kf : ¬ x ≤ 0 → XW X nL ws nc ns (pc + 3) lv st) : XW X nL ws nc ns pc lv (.int x :: st) := by
  obtain ⟨p, l, e, R, s, m, args, below, meth, c, D, A, Q⟩ := X
  obtain ⟨rfl, rfl, hx, hb, -⟩ := F
  exact fun H locs ls hP hD hS hl => lv_if_le hx hb hd ht (fun h => kt h H locs ls hP hD hS hl) (fun h => kf h H locs ls hP hD hS hl)
theorem x_icmp_le (F : XF X l0 D0 cA cc nL ret own fr lo mc ms) {x y : Int32} {off : Int} (tgt : Nat) (hd : decode cc pc = .ok (.if_icmp .le off, 3)) (ht : (pc : Int) + off = (tgt : Int)) (kt : x ≤ y → XW X nL ws nc ns tgt lv st) (kf : ¬ x ≤ y → XW X nL ws nc ns (pc + 3) lv st) : XW X nL ws nc ns pc lv (.int y :: .int x :: st) := by
  obtain ⟨p, l, e, R, s, m, args, below, meth, c, D, A, Q⟩ := X
  obtain ⟨rfl, rfl, hx, hb, -⟩ := F
  exact fun H locs ls hP hD hS hl => lv_icmp_le hx hb hd ht (fun h => kt h H locs ls hP hD hS hl) (fun h => kf h H locs ls hP hD hS hl)
theorem x_goto (F : XF X l0 D0 cA cc nL ret own fr lo mc ms) {off : Int} (tgt : Nat) (hd : decode cc pc = .ok (.goto off, 3)) (ht : (pc : Int) + off = (tgt : Int)) (k : XW X nL ws nc ns tgt lv st) : XW X nL ws nc ns pc lv st := by
  obtain ⟨p, l, e, R, s, m, args, below, meth, c, D, A, Q⟩ := X
  obtain ⟨rfl, rfl, hx, hb, -⟩ := F
  exact fun H locs ls hP hD hS hl => lv_goto hx hb hd ht (k H locs ls hP hD hS hl)
theorem x_tableOut (F : XF X l0 D0 cA cc nL ret own fr lo mc ms) {dflt lo' hi' : Int} {offs : Array Int} {len : Nat} {x : Int32} (tgt : Nat) (hd : decode cc pc = .ok (.tableswitch dflt lo' hi' offs, len)) (h : x.toInt < lo' ∨ hi' < x.toInt) (ht : (pc : Int) + dflt = (tgt : Int)) (k : XW X nL ws nc ns tgt lv st) : XW X nL ws nc ns pc lv (.int x :: st) := by
  obtain ⟨p, l, e, R, s, m, args, below, meth, c, D, A, Q⟩ := X
  obtain ⟨rfl, rfl, hx, hb, -⟩ := F
  exact fun H locs ls hP hD hS hl => lv_tableOut hx hb hd h ht (k H locs ls hP hD hS hl)
theorem x_tableIn (F : XF X l0 D0 cA cc nL ret own fr lo mc ms) {dflt lo' hi' : Int} {offs : Array Int} {len : Nat} {x : Int32} {off : Int} (tgt : Nat) (hd : decode cc pc = .ok (.tableswitch dflt lo' hi' offs, len)) (h1 : ¬ x.toInt < lo') (h2 : ¬ hi' < x.toInt) (ho : offs[(x.toInt - lo').toNat]? = some off) (ht : (pc : Int) + off = (tgt : Int)) (k : XW X nL ws nc ns tgt lv st) : XW X nL ws nc ns pc lv (.int x :: st) := by
  obtain ⟨p, l, e, R, s, m, args, below, meth, c, D, A, Q⟩ := X
  obtain ⟨rfl, rfl, hx, hb, -⟩ := F
  exact fun H locs ls hP hD hS hl => lv_tableIn hx hb hd h1 h2 ho ht (k H locs ls hP hD hS hl)
theorem x_cs {nc' ns' : Nat} (hc : nc = nc') (hs : ns = ns') (k : XW X nL ws nc' ns' pc lv st) : XW X nL ws nc ns pc lv st := by
  subst hc; subst hs; exact k
theorem x_ws (h : ws = ws') (k : XW X nL ws' nc ns pc lv st) : XW X nL ws nc ns pc lv st := by
  subst h; exact k
theorem x_nf {st' : List Value} (h : ws = ws') (h2 : st = st') (k : XW X nL ws' nc ns pc lv st') : XW X nL ws nc ns pc lv st := by
  subst h; subst h2; exact k
theorem x_nf2 (h : ws = ws') (h2 : lv = lv') (k : XW X nL ws' nc ns pc lv' st) : XW X nL ws nc ns pc lv st := by
  subst h; subst h2; exact k
/-- fewer cells, in any order, by their places -/
theorem x_sub (is : List Nat) (hn : va_nd is = true) (hs : is.map (fun i => ws[i]?) = ws'.map some) (k : XW X nL ws' nc ns pc lv st) : XW X nL ws nc ns pc lv st := by
  obtain ⟨p, l, e, R, s, m, args, below, meth, c, D, A, Q⟩ := X
  refine fun H locs ls hP hD hS hl => k H locs ls ?_ (hD.sub is hn hs) hS hl
  intro j q hj
  have h1 : (is.map (fun i => ws[i]?))[j]? = some (some q) := by rw [hs, List.getElem?_map, hj]; rfl
  rw [List.getElem?_map] at h1
  cases hi : is[j]? with
  | none => rw [hi] at h1; cases h1
  | some i => rw [hi] at h1; exact hP i q (Option.some.inj h1)
theorem x_lv (ks : List Nat) (h : lv_pick lv ks = lv') (k : XW X nL ws nc ns pc lv' st) : XW X nL ws nc ns pc lv st := by
  obtain ⟨p, l, e, R, s, m, args, below, meth, c, D, A, Q⟩ := X
  exact fun H locs ls hP hD hS hl => k H locs ls hP hD hS (lv_sub hl ks h)
theorem x_get (F : XF X l0 D0 cA cc nL ret own fr lo mc ms) {ci N idx a : Nat} {C : String} {T : u_T} {ty : Nat → FieldType} {fs : List Value} {v : Value} (K : XC ci C T N ty) (hin : ∀ w ∈ u_ws C T N, w ∈ xw_G) (q0 j : Nat) (he : ws[q0]? = some (a, .inr (ci, fs))) (hj : j < N) (hlink : Cond.fieldLink own idx C (T j).2.1 (T j).2.2.1 ∈ xw_G) (hcl : (T j).1 = C) (hv : fs[j]? = some v) (hd : decode cc pc = .ok (.getfield idx, 3)) (k : XW X nL ws nc ns (pc + 3) lv (v :: st)) : XW X nL ws nc ns pc lv (.ref a :: st) := by
  obtain ⟨p, l, e, R, s, m, args, below, meth, c, D, A, Q⟩ := X
  obtain ⟨rfl, rfl, hx, hb, -, -, hts, hown, -, hK, -⟩ := F
  exact fun H locs ls hP hD hS hl => va_get hx hb hts hin hown hK.1 hP q0 he K.1 j hj (hts _ hlink) (fun x hx => by rw [hcl] at hx; exact hx) hv hd (k H locs ls hP hD hS hl)
theorem x_getN (F : XF X l0 D0 cA cc nL ret own fr lo mc ms) {ci N idx a : Nat} {C host : String} {T : u_T} {ty : Nat → FieldType} {fs : List Value} {v : Value} (K : XC ci C T N ty) (hin : ∀ w ∈ u_ws C T N, w ∈ xw_G) (q0 j : Nat) (he : ws[q0]? = some (a, .inr (ci, fs))) (hj : j < N) (hlink : Cond.fieldLinkNest own idx C (T j).2.1 (T j).2.2.1 host ∈ xn_W) (hcl : (T j).1 = C) (hv : fs[j]? = some v) (hd : decode cc pc = .ok (.getfield idx, 3)) (k : XW X nL ws nc ns (pc + 3) lv (v :: st)) : XW X nL ws nc ns pc lv (.ref a :: st) := by
  obtain ⟨p, l, e, R, s, m, args, below, meth, c, D, A, Q⟩ := X
  obtain ⟨rfl, rfl, hx, hb, -, -, hts, hown, -, hK, -⟩ := F
  exact fun H locs ls hP hD hS hl => va_getN hx hb hts hin hown hK.1 hP q0 he K.1 j hj (va_Nw.use rfl (hK.2 _ hlink)) (fun x hx => by rw [hcl] at hx; exact hx) hv hd (k H locs ls hP hD hS hl)
theorem x_put (F : XF X l0 D0 cA cc nL ret own fr lo mc ms) {ci N idx a : Nat} {C : String} {T : u_T} {ty : Nat → FieldType} {fs : List Value} {v : Value} (K : XC ci C T N ty) (hin : ∀ w ∈ u_ws C T N, w ∈ xw_G) (q0 j : Nat) (he : ws[q0]? = some (a, .inr (ci, fs))) (hj : j < N) (hlink : Cond.fieldLink own idx C (T j).2.1 (T j).2.2.1 ∈ xw_G) (hcl : (T j).1 = C) (hfin : (T j).2.2.2 = false) (hn : narrow (ty j) v = v) (hfit : fits (ty j) v = true) (hjl : j < fs.length) (hws : ws.set q0 (a, .inr (ci, fs.set j v)) = ws') (hd : decode cc pc = .ok (.putfield idx, 3)) (k : XW X nL ws' nc ns (pc + 3) lv st) : XW X nL ws nc ns pc lv (v :: .ref a :: st) := by
  obtain ⟨p, l, e, R, s, m, args, below, meth, c, D, A, Q⟩ := X
  obtain ⟨rfl, rfl, hx, hb, -, -, hts, hown, -, hK, -⟩ := F
  subst hws
  exact fun H locs ls hP hD hS hl => va_put hx hb hts hin ty K.2.1 K.2.2 hown hK.1 hP hD hS q0 he K.1 j hj (hts _ hlink) (fun x hx => by rw [hcl] at hx; exact hx) hfin (K.2.1 j hj) hn hfit hjl hd (fun H1 locs1 hP1 hD1 hS1 => k H1 locs1 ls hP1 hD1 hS1 hl)
theorem x_putN (F : XF X l0 D0 cA cc nL ret own fr lo mc ms) {ci N idx a : Nat} {C host : String} {T : u_T} {ty : Nat → FieldType} {fs : List Value} {v : Value} (K : XC ci C T N ty) (hin : ∀ w ∈ u_ws C T N, w ∈ xw_G) (q0 j : Nat) (he : ws[q0]? = some (a, .inr (ci, fs))) (hj : j < N) (hlink : Cond.fieldLinkNest own idx C (T j).2.1 (T j).2.2.1 host ∈ xn_W) (hcl : (T j).1 = C) (hfin : (T j).2.2.2 = false) (hn : narrow (ty j) v = v) (hfit : fits (ty j) v = true) (hjl : j < fs.length) (hws : ws.set q0 (a, .inr (ci, fs.set j v)) = ws') (hd : decode cc pc = .ok (.putfield idx, 3)) (k : XW X nL ws' nc ns (pc + 3) lv st) : XW X nL ws nc ns pc lv (v :: .ref a :: st) := by
  obtain ⟨p, l, e, R, s, m, args, below, meth, c, D, A, Q⟩ := X
  obtain ⟨rfl, rfl, hx, hb, -, -, hts, hown, -, hK, -⟩ := F
  subst hws
  exact fun H locs ls hP hD hS hl => va_putN hx hb hts hin ty K.2.1 K.2.2 hown hK.1 hP hD hS q0 he K.1 j hj (va_Nw.use rfl (hK.2 _ hlink)) (fun x hx => by rw [hcl] at hx; exact hx) hfin (K.2.1 j hj) hn hfit hjl hd (fun H1 locs1 hP1 hD1 hS1 => k H1 locs1 ls hP1 hD1 hS1 hl)
/-- the method's own name -/
def XI (X : XT) : Prop := match X with
  | (_, _, _, _, _, _, _, _, meth, _, _, _, _) => meth.name = "<init>"
theorem x_putF (F : XF X l0 D0 cA cc nL ret own fr lo mc ms) (I : XI X) {ci N idx a : Nat} {C : String} {T : u_T} {ty : Nat → FieldType} {fs : List Value} {v : Value} (K : XC ci C T N ty) (hin : ∀ w ∈ u_ws C T N, w ∈ xw_G) (q0 j : Nat) (he : ws[q0]? = some (a, .inr (ci, fs))) (hj : j < N) (hlink : Cond.fieldLink own idx C (T j).2.1 (T j).2.2.1 ∈ xw_G) (hcl : (T j).1 = C) (hown' : C = own) (hfin : (T j).2.2.2 = true) (hn : narrow (ty j) v = v) (hfit : fits (ty j) v = true) (hjl : j < fs.length) (hws : ws.set q0 (a, .inr (ci, fs.set j v)) = ws') (hd : decode cc pc = .ok (.putfield idx, 3)) (k : XW X nL ws' nc ns (pc + 3) lv st) : XW X nL ws nc ns pc lv (v :: .ref a :: st) := by
  obtain ⟨p, l, e, R, s, m, args, below, meth, c, D, A, Q⟩ := X
  obtain ⟨rfl, rfl, hx, hb, -, -, hts, hown, -, hK, -⟩ := F
  subst hws
  exact fun H locs ls hP hD hS hl => va_putF hx hb hts hin ty K.2.1 K.2.2 hown hK.1 hP hD hS q0 he K.1 j hj (hts _ hlink) (fun x hx => by rw [hcl] at hx; exact hx) hfin I (hcl.trans hown') (K.2.1 j hj) hn hfit hjl hd (fun H1 locs1 hP1 hD1 hS1 => k H1 locs1 ls hP1 hD1 hS1 hl)
theorem x_iald (F : XF X l0 D0 cA cc nL ret own fr lo mc ms) {a : Nat} {x : Ar} {i v : Int32} (q0 : Nat) (he : ws[q0]? = some (a, .inl (cA 0, x.1, .inl x.2))) (hv : v = x.2 i.toNatClampNeg) (hin : vp_in i x.1) (hd : decode cc pc = .ok (.iaload, 1)) (k : XW X nL ws nc ns (pc + 1) lv (.int v :: st)) : XW X nL ws nc ns pc lv (.int i :: .ref a :: st) := by
  obtain ⟨p, l, e, R, s, m, args, below, meth, c, D, A, Q⟩ := X
  obtain ⟨rfl, rfl, hx, hb, -, -, hts, hown, -, hK, -⟩ := F
  subst hv
  exact fun H locs ls hP hD hS hl => va_iald hx hb hK.1 hP q0 0 he rfl hin hd (k H locs ls hP hD hS hl)
theorem x_bald (F : XF X l0 D0 cA cc nL ret own fr lo mc ms) {a : Nat} {x : Ar} {i v : Int32} (q0 : Nat) (he : ws[q0]? = some (a, .inl (cA 1, x.1, .inl x.2))) (hv : v = x.2 i.toNatClampNeg) (hin : vp_in i x.1) (hd : decode cc pc = .ok (.baload, 1)) (k : XW X nL ws nc ns (pc + 1) lv (.int v :: st)) : XW X nL ws nc ns pc lv (.int i :: .ref a :: st) := by
  obtain ⟨p, l, e, R, s, m, args, below, meth, c, D, A, Q⟩ := X
  obtain ⟨rfl, rfl, hx, hb, -, -, hts, hown, -, hK, -⟩ := F
  subst hv
  exact fun H locs ls hP hD hS hl => va_bald hx hb hK.1 hP q0 1 he rfl hin hd (k H locs ls hP hD hS hl)
theorem x_zald (F : XF X l0 D0 cA cc nL ret own fr lo mc ms) {a : Nat} {x : Ar} {i v : Int32} (q0 : Nat) (he : ws[q0]? = some (a, .inl (cA 2, x.1, .inl x.2))) (hv : v = x.2 i.toNatClampNeg) (hin : vp_in i x.1) (hd : decode cc pc = .ok (.baload, 1)) (k : XW X nL ws nc ns (pc + 1) lv (.int v :: st)) : XW X nL ws nc ns pc lv (.int i :: .ref a :: st) := by
  obtain ⟨p, l, e, R, s, m, args, below, meth, c, D, A, Q⟩ := X
  obtain ⟨rfl, rfl, hx, hb, -, -, hts, hown, -, hK, -⟩ := F
  subst hv
  exact fun H locs ls hP hD hS hl => va_zald hx hb hK.1 hP q0 2 he rfl hin hd (k H locs ls hP hD hS hl)
theorem x_iast (F : XF X l0 D0 cA cc nL ret own fr lo mc ms) {a : Nat} {x x' : Ar} {i v : Int32} (q0 : Nat) (he : ws[q0]? = some (a, .inl (cA 0, x.1, .inl x.2))) (hv : x' = (x.1, upd x.2 i.toNatClampNeg v)) (hin : vp_in i x.1) (hws : ws.set q0 (a, .inl (cA 0, x'.1, .inl x'.2)) = ws') (hd : decode cc pc = .ok (.iastore, 1)) (k : XW X nL ws' nc ns (pc + 1) lv st) : XW X nL ws nc ns pc lv (.int v :: .int i :: .ref a :: st) := by
  obtain ⟨p, l, e, R, s, m, args, below, meth, c, D, A, Q⟩ := X
  obtain ⟨rfl, rfl, hx, hb, -, -, hts, hown, -, hK, -⟩ := F
  subst hv
  subst hws
  exact fun H locs ls hP hD hS hl => va_iast hx hb hK.1 hP hD hS q0 0 he rfl hin hd (fun H1 locs1 hP1 hD1 hS1 => k H1 locs1 ls hP1 hD1 hS1 hl)
theorem x_bast (F : XF X l0 D0 cA cc nL ret own fr lo mc ms) {a : Nat} {x x' : Ar} {i v : Int32} (q0 : Nat) (he : ws[q0]? = some (a, .inl (cA 1, x.1, .inl x.2))) (hv : x' = (x.1, upd x.2 i.toNatClampNeg (vp_nar .byte v))) (hin : vp_in i x.1) (hws : ws.set q0 (a, .inl (cA 1, x'.1, .inl x'.2)) = ws') (hd : decode cc pc = .ok (.bastore, 1)) (k : XW X nL ws' nc ns (pc + 1) lv st) : XW X nL ws nc ns pc lv (.int v :: .int i :: .ref a :: st) := by
  obtain ⟨p, l, e, R, s, m, args, below, meth, c, D, A, Q⟩ := X
  obtain ⟨rfl, rfl, hx, hb, -, -, hts, hown, -, hK, -⟩ := F
  subst hv
  subst hws
  exact fun H locs ls hP hD hS hl => va_bast hx hb hK.1 hP hD hS q0 1 he rfl hin hd (fun H1 locs1 hP1 hD1 hS1 => k H1 locs1 ls hP1 hD1 hS1 hl)
theorem x_zast (F : XF X l0 D0 cA cc nL ret own fr lo mc ms) {a : Nat} {x x' : Ar} {i v : Int32} (q0 : Nat) (he : ws[q0]? = some (a, .inl (cA 2, x.1, .inl x.2))) (hv : x' = (x.1, upd x.2 i.toNatClampNeg (vp_nar .boolean v))) (hin : vp_in i x.1) (hws : ws.set q0 (a, .inl (cA 2, x'.1, .inl x'.2)) = ws') (hd : decode cc pc = .ok (.bastore, 1)) (k : XW X nL ws' nc ns (pc + 1) lv st) : XW X nL ws nc ns pc lv (.int v :: .int i :: .ref a :: st) := by
  obtain ⟨p, l, e, R, s, m, args, below, meth, c, D, A, Q⟩ := X
  obtain ⟨rfl, rfl, hx, hb, -, -, hts, hown, -, hK, -⟩ := F
  subst hv
  subst hws
  exact fun H locs ls hP hD hS hl => va_zast hx hb hK.1 hP hD hS q0 2 he rfl hin hd (fun H1 locs1 hP1 hD1 hS1 => k H1 locs1 ls hP1 hD1 hS1 hl)
theorem x_alen (F : XF X l0 D0 cA cc nL ret own fr lo mc ms) {a : Nat} {x : Ar} (q0 : Nat) (he : ws[q0]? = some (a, .inl (cA 0, x.1, .inl x.2))) (hd : decode cc pc = .ok (.arraylength, 1)) (k : XW X nL ws nc ns (pc + 1) lv (.int (nI x.1) :: st)) : XW X nL ws nc ns pc lv (.ref a :: st) := by
  obtain ⟨p, l, e, R, s, m, args, below, meth, c, D, A, Q⟩ := X
  obtain ⟨rfl, rfl, hx, hb, -, -, hts, hown, -, hK, -⟩ := F
  exact fun H locs ls hP hD hS hl => va_alen (x := (x.1, .inl x.2)) hx hb hK.1 hP q0 0 he (ty := .int) rfl rfl hd (k H locs ls hP hD hS hl)
theorem x_newa (F : XF X l0 D0 cA cc nL ret own fr lo mc ms) {n : Int32} {x : Ar} (harr : Cond.arrayClass .int ∈ xw_G) (hx' : x = (n.toNatClampNeg, fun _ => 0)) (hn : ¬ n < 0) (hb' : n.toNatClampNeg ≤ 67108864) (hc : nc + 1 ≤ mc) (hs : ns + n.toNatClampNeg ≤ ms) (hd : decode cc pc = .ok (.newarray .int, 2)) (k : ∀ q : Nat, XW X nL (ws ++ [(q, .inl (cA 0, x.1, .inl x.2))]) (nc + 1) (ns + n.toNatClampNeg) (pc + 2) lv (.ref q :: st)) : XW X nL ws nc ns pc lv (.int n :: st) := by
  obtain ⟨p, l, e, R, s, m, args, below, meth, c, D, A, Q⟩ := X
  obtain ⟨rfl, rfl, hx, hb, -, -, hts, hown, -, hK, hA, -, -, hmc, hms⟩ := F
  subst hx'
  refine fun H locs ls hP hD hS hl => va_newa (atype := .int) (ty := .int) (N' := n.toNatClampNeg) (a0 := (n.toNatClampNeg, .inl (fun _ => 0))) hx hb (hts _ harr) rfl hK.1 hP hD hS hA (fun _ => rfl) hn rfl (by show n.toNatClampNeg * 4 ≤ 536870912; omega) (Nat.le_trans hc hmc) (Nat.le_trans hs hms) hd (fun q cA' H1 hK1 hP1 hD1 hS1 => ?_)
  have e1 : s.vm.findClass ("[" ++ (FieldType.int).toString) = some (cA 0) := (hK.1.2 0 _ rfl).2
  have e2 : s.vm.findClass ("[" ++ (FieldType.int).toString) = some cA' := (hK1.2 3 _ rfl).2
  have e3 : cA' = cA 0 := Option.some.inj (e2.symm.trans e1)
  subst e3
  exact k q H1 locs ls hP1 hD1 hS1 hl
theorem x_newab (F : XF X l0 D0 cA cc nL ret own fr lo mc ms) {n : Int32} {x : Ar} (harr : Cond.arrayClass .byte ∈ xw_G) (hx' : x = (n.toNatClampNeg, fun _ => 0)) (hn : ¬ n < 0) (hb' : n.toNatClampNeg ≤ 67108864) (hc : nc + 1 ≤ mc) (hs : ns + n.toNatClampNeg ≤ ms) (hd : decode cc pc = .ok (.newarray .byte, 2)) (k : ∀ q : Nat, XW X nL (ws ++ [(q, .inl (cA 1, x.1, .inl x.2))]) (nc + 1) (ns + n.toNatClampNeg) (pc + 2) lv (.ref q :: st)) : XW X nL ws nc ns pc lv (.int n :: st) := by
  obtain ⟨p, l, e, R, s, m, args, below, meth, c, D, A, Q⟩ := X
  obtain ⟨rfl, rfl, hx, hb, -, -, hts, hown, -, hK, hA, -, -, hmc, hms⟩ := F
  subst hx'
  refine fun H locs ls hP hD hS hl => va_newa (atype := .byte) (ty := .byte) (N' := n.toNatClampNeg) (a0 := (n.toNatClampNeg, .inl (fun _ => 0))) hx hb (hts _ harr) rfl hK.1 hP hD hS hA (fun _ => rfl) hn rfl (by show n.toNatClampNeg * 1 ≤ 536870912; omega) (Nat.le_trans hc hmc) (Nat.le_trans hs hms) hd (fun q cA' H1 hK1 hP1 hD1 hS1 => ?_)
  have e1 : s.vm.findClass ("[" ++ (FieldType.byte).toString) = some (cA 1) := (hK.1.2 1 _ rfl).2
  have e2 : s.vm.findClass ("[" ++ (FieldType.byte).toString) = some cA' := (hK1.2 3 _ rfl).2
  have e3 : cA' = cA 1 := Option.some.inj (e2.symm.trans e1)
  subst e3
  exact k q H1 locs ls hP1 hD1 hS1 hl
theorem x_newaz (F : XF X l0 D0 cA cc nL ret own fr lo mc ms) {n : Int32} {x : Ar} (harr : Cond.arrayClass .boolean ∈ xw_G) (hx' : x = (n.toNatClampNeg, fun _ => 0)) (hn : ¬ n < 0) (hb' : n.toNatClampNeg ≤ 67108864) (hc : nc + 1 ≤ mc) (hs : ns + n.toNatClampNeg ≤ ms) (hd : decode cc pc = .ok (.newarray .boolean, 2)) (k : ∀ q : Nat, XW X nL (ws ++ [(q, .inl (cA 2, x.1, .inl x.2))]) (nc + 1) (ns + n.toNatClampNeg) (pc + 2) lv (.ref q :: st)) : XW X nL ws nc ns pc lv (.int n :: st) := by
  obtain ⟨p, l, e, R, s, m, args, below, meth, c, D, A, Q⟩ := X
  obtain ⟨rfl, rfl, hx, hb, -, -, hts, hown, -, hK, hA, -, -, hmc, hms⟩ := F
  subst hx'
  refine fun H locs ls hP hD hS hl => va_newa (atype := .boolean) (ty := .boolean) (N' := n.toNatClampNeg) (a0 := (n.toNatClampNeg, .inl (fun _ => 0))) hx hb (hts _ harr) rfl hK.1 hP hD hS hA (fun _ => rfl) hn rfl (by show n.toNatClampNeg * 1 ≤ 536870912; omega) (Nat.le_trans hc hmc) (Nat.le_trans hs hms) hd (fun q cA' H1 hK1 hP1 hD1 hS1 => ?_)
  have e1 : s.vm.findClass ("[" ++ (FieldType.boolean).toString) = some (cA 2) := (hK.1.2 2 _ rfl).2
  have e2 : s.vm.findClass ("[" ++ (FieldType.boolean).toString) = some cA' := (hK1.2 3 _ rfl).2
  have e3 : cA' = cA 2 := Option.some.inj (e2.symm.trans e1)
  subst e3
  exact k q H1 locs ls hP1 hD1 hS1 hl
theorem x_new (F : XF X l0 D0 cA cc nL ret own fr lo mc ms) {ci N idx : Nat} {C : String} {T : u_T} {ty : Nat → FieldType} {fs : List Value} (K : XC ci C T N ty) (hin : ∀ w ∈ u_ws C T N, w ∈ xw_G) (hcl : Cond.classLink own idx C ∈ xw_G) (hinst : Cond.instantiable C N ∈ xw_G) (hini : Cond.initialized C ∈ xw_G) (hfs : ∀ j, j < N → defaultValue (ty j) = vp_V fs j) (hc : nc + 1 ≤ mc) (hs : ns + N ≤ ms) (hd : decode cc pc = .ok (.new idx, 3)) (k : ∀ q : Nat, XW X nL (ws ++ [(q, .inr (ci, fs))]) (nc + 1) (ns + N) (pc + 3) lv (.ref q :: st)) : XW X nL ws nc ns pc lv st := by
  obtain ⟨p, l, e, R, s, m, args, below, meth, c, D, A, Q⟩ := X
  obtain ⟨rfl, rfl, hx, hb, -, -, hts, hown, -, hK, hA, -, -, hmc, hms⟩ := F
  exact fun H locs ls hP hD hS hl => va_new hx hb hts hin ty K.2.1 hown (hts _ hcl) (hts _ hinst) (hts _ hini) hK.1 hP hD hS hA K.1 hfs (Nat.le_trans hc hmc) (Nat.le_trans hs hms) hd (fun q H1 hP1 hD1 hS1 => k q H1 locs ls hP1 hD1 hS1 hl)
theorem x_objInit (F : XF X l0 D0 cA cc nL ret own fr lo mc ms) {idx a : Nat} (hlink : Cond.methodLink own idx Lib.objectInit ∈ xw_G) (hinst : Cond.instanceMethod Lib.objectInit ∈ xw_G) (hcode : Cond.code Lib.objectInit ⟨#[0xb1]⟩ 1 none ∈ xw_G) (hfr : 1 ≤ fr) (hlo : (st.map fun v => v.category).sum + 12 ≤ lo) (hd : decode cc pc = .ok (.invokespecial idx, 3)) (k : XW X nL ws nc ns (pc + 3) lv st) : XW X nL ws nc ns pc lv (.ref a :: st) := by
  obtain ⟨p, l, e, R, s, m, args, below, meth, c, D, A, Q⟩ := X
  obtain ⟨rfl, rfl, hx, hb, -, hml, hts, hown, -, hK, -, hRf, hRl, -⟩ := F
  refine fun H locs ls hP hD hS hl => W.objInit hx hb hown (hts _ hlink) (hts _ hinst) (hts _ hcode) rfl (by rw [hml]; exact hl.1) rfl hd (Nat.le_trans hfr hRf) ?_ (k H locs ls hP hD hS hl)
  show 2 * 0 + _ + 12 ≤ _
  omega
theorem x_max (F : XF X l0 D0 cA cc nL ret own fr lo mc ms) {idx : Nat} {x y : Int32} (hlink : Cond.methodLink own idx Lib.Math.max.name ∈ xw_G) (hstat : Cond.static Lib.Math.max.name ∈ xw_G) (hini : Cond.initialized "java/lang/Math" ∈ xw_G) (hcode : Cond.code Lib.Math.max.name Lib.Math.max.code 2 (some .int) ∈ xw_G) (hfr : 1 ≤ fr) (hlo : (st.map fun v => v.category).sum + 13 ≤ lo) (hc : nc ≤ mc) (hs : ns ≤ ms) (hd : decode cc pc = .ok (.invokestatic idx, 3)) (k : XW X nL ws nc ns (pc + 3) lv (.int (if x < y then y else x) :: st)) : XW X nL ws nc ns pc lv (.int y :: .int x :: st) := by
  obtain ⟨p, l, e, R, s, m, args, below, meth, c, D, A, Q⟩ := X
  obtain ⟨rfl, rfl, hx, hb, -, hml, hts, hown, -, hK, -, hRf, hRl, hmc, hms⟩ := F
  exact fun H locs ls hP hD hS hl => va_mmax hx hb (by rw [hml]; exact hl.1.symm) hown (hts _ hlink) (hts _ hstat) (hts _ hini) (hts _ hcode) (Nat.le_trans hfr hRf) (Nat.le_trans hlo hRl) (Nat.le_trans hc hmc) (Nat.le_trans hs hms) hd (k H locs ls hP hD hS hl)
theorem x_min (F : XF X l0 D0 cA cc nL ret own fr lo mc ms) {idx : Nat} {x y : Int32} (hlink : Cond.methodLink own idx Lib.Math.min.name ∈ xw_G) (hstat : Cond.static Lib.Math.min.name ∈ xw_G) (hini : Cond.initialized "java/lang/Math" ∈ xw_G) (hcode : Cond.code Lib.Math.min.name Lib.Math.min.code 2 (some .int) ∈ xw_G) (hfr : 1 ≤ fr) (hlo : (st.map fun v => v.category).sum + 13 ≤ lo) (hc : nc ≤ mc) (hs : ns ≤ ms) (hd : decode cc pc = .ok (.invokestatic idx, 3)) (k : XW X nL ws nc ns (pc + 3) lv (.int (if y < x then y else x) :: st)) : XW X nL ws nc ns pc lv (.int y :: .int x :: st) := by
  obtain ⟨p, l, e, R, s, m, args, below, meth, c, D, A, Q⟩ := X
  obtain ⟨rfl, rfl, hx, hb, -, hml, hts, hown, -, hK, -, hRf, hRl, hmc, hms⟩ := F
  exact fun H locs ls hP hD hS hl => va_mmin hx hb (by rw [hml]; exact hl.1.symm) hown (hts _ hlink) (hts _ hstat) (hts _ hini) (hts _ hcode) (Nat.le_trans hfr hRf) (Nat.le_trans hlo hRl) (Nat.le_trans hc hmc) (Nat.le_trans hs hms) hd (k H locs ls hP hD hS hl)
theorem x_copy (F : XF X l0 D0 cA cc nL ret own fr lo mc ms) {idx a0 a1 : Nat} {x y y' : Ar} {sp dp n : Int32} (hlink : Cond.methodLink own idx arraycopyName ∈ xw_G) (hnat : Cond.native arraycopyName ∈ xw_G) (hstat : Cond.static arraycopyName ∈ xw_G) (hini : Cond.initialized "java/lang/System" ∈ xw_G) (q0 q1 : Nat) (he0 : ws[q0]? = some (a0, .inl (cA 0, x.1, .inl x.2))) (he1 : ws[q1]? = some (a1, .inl (cA 0, y.1, .inl y.2))) (hok : xm_cpok x y sp dp n) (hy : y' = (y.1, va_cpy x.2 y.2 sp.toNatClampNeg dp.toNatClampNeg n.toNatClampNeg)) (hws : ws.set q1 (a1, .inl (cA 0, y'.1, .inl y'.2)) = ws') (hfr : 1 ≤ fr) (hlo : (st.map fun v => v.category).sum + (nativeFrameWords "java/lang/System" "arraycopy" 5 + 11) ≤ lo) (hd : decode cc pc = .ok (.invokestatic idx, 3)) (k : XW X nL ws' nc ns (pc + 3) lv st) : XW X nL ws nc ns pc lv (.int n :: .int dp :: .ref a1 :: .int sp :: .ref a0 :: st) := by
  obtain ⟨p, l, e, R, s, m, args, below, meth, c, D, A, Q⟩ := X
  obtain ⟨rfl, rfl, hx, hb, -, hml, hts, hown, -, hK, -, hRf, hRl, hmc, hms⟩ := F
  subst hy
  subst hws
  unfold xm_cpok at hok
  exact fun H locs ls hP hD hS hl => va_copyi hx hb (by rw [hml]; exact hl.1.symm) hown (hts _ hlink) (hts _ hnat) (hts _ hstat) (hts _ hini) hK.1 hP hD hS q0 q1 0 0 he0 he1 rfl rfl rfl (fun h => hok (Or.inl (Or.inl h))) (fun h => hok (Or.inl (Or.inr (Or.inl h)))) (fun h => hok (Or.inl (Or.inr (Or.inr h)))) (by omega) (by omega) (fun _ _ => rfl) (Nat.le_trans hfr hRf) (Nat.le_trans hlo hRl) hd (fun H1 locs1 hP1 hD1 hS1 => k H1 locs1 ls hP1 hD1 hS1 hl)
end XR
/-- a method's contract: its world at the start, what it makes, its answer, its world at the end (addresses by 'ad') -/
def XM (l : Launch) (D : va_G) (cA : Nat → ClassId) (y : MethodName) (cc : ByteArray) (nL : Nat) (ret : Option FieldType) (fr lo : Nat) (av : List Value) (w0 : va_W) (k : KC) (res : (Nat → Nat) → Option Value) (w1 : (Nat → Nat) → va_W) : Prop :=
  ∀ sz : Nat, Met l y (.code y cc nL ret :: xw_G) { frames := fr, cells := k.1, slots := k.2, locals := lo } (va_Pc av (fun U => U.heap.size = sz ∧ va_P D vwCl w0 U.heap ∧ XK D cA U ∧ va_D (fun _ => True) w0)) (fun _ st oc t => (∃ ad : Nat → Nat, oc = .returned (res ad) ∧ va_P D vwCl (w1 ad) t.heap ∧ va_D (va_A w0 sz) (w1 ad)) ∧ va_F (va_A w0 sz) st t) k.1 k.2 (va_A w0 sz)
theorem xk_blind {D : va_G} {cA : Nat → ClassId} {U : State} (g : JFrame) (mk : MethodId) (a : Array Value) (h : XK D cA U) : XK D cA (U.calling g mk a) :=
  ⟨va_K.moved (u := U) (U := U.calling g mk a) (Vm.Alike.refl U.vm) h.1, fun w hw => va_Nw.same (u := U) (U := U.calling g mk a) (xn_tabs w hw) rfl (h.2 w hw)⟩
theorem xk_warm {D : va_G} {cA : Nat → ClassId} {s U : State} (hW : s.WarmedH U.vm) (h : XK D cA s) : XK D cA U :=
  ⟨va_K.moved hW.alike h.1, fun w hw => xn_warm w hw hW (h.2 w hw)⟩
theorem x_blind {D : va_G} {cA : Nat → ClassId} {av : List Value} {w0 : va_W} {sz : Nat} : FrameBlind (va_Pc av (fun U => U.heap.size = sz ∧ va_P D vwCl w0 U.heap ∧ XK D cA U ∧ va_D (fun _ => True) w0)) := by
  intro a U g mk h
  obtain ⟨q0, q1, qP, qK, qD⟩ := h
  exact ⟨q0, q1, qP, xk_blind g mk a qK, qD⟩
theorem xw_C {y : MethodName} {bytes : ByteArray} {maxL : Nat} {rt : Option FieldType} (hcd : Cond.code y bytes maxL rt ∈ xw_G) : ∀ w ∈ (Cond.code y bytes maxL rt :: xw_G), w ∈ xw_G := fun w h => (List.mem_cons.mp h).elim (fun e => by rw [e]; exact hcd) id
theorem xw_V {own C : String} {idx : Nat} {y : MethodName} {bytes : ByteArray} {maxL : Nat} {rt : Option FieldType} (hcd : Cond.code y bytes maxL rt ∈ xw_G) (hlk : Cond.methodLink own idx y ∈ xw_G) (him : Cond.instanceMethod y ∈ xw_G) (hsel : Cond.selects C y y ∈ xw_G) (hini : Cond.initialized C ∈ xw_G) : ∀ w ∈ wsV own idx C y (Cond.code y bytes maxL rt :: xw_G), w ∈ xw_G := by
  intro w h
  rcases List.mem_append.mp h with h | h
  · simp only [List.mem_cons, List.not_mem_nil, or_false] at h
    rcases h with rfl | rfl | rfl | rfl
    · exact hlk
    · exact him
    · exact hsel
    · exact hini
  · exact xw_C hcd w h
theorem xw_S {own : String} {idx : Nat} {y : MethodName} {bytes : ByteArray} {maxL : Nat} {rt : Option FieldType} (hcd : Cond.code y bytes maxL rt ∈ xw_G) (hlk : Cond.methodLink own idx y ∈ xw_G) (hsta : Cond.static y ∈ xw_G) (hini : Cond.initialized own ∈ xw_G) : ∀ w ∈ wsS own idx y (Cond.code y bytes maxL rt :: xw_G), w ∈ xw_G := by
  intro w h
  rcases List.mem_append.mp h with h | h
  · simp only [List.mem_cons, List.not_mem_nil, or_false] at h
    rcases h with rfl | rfl | rfl
    · exact hlk
    · exact hsta
    · exact hini
  · exact xw_C hcd w h
theorem xw_SO {own : String} {idx : Nat} {y : MethodName} {bytes : ByteArray} {maxL : Nat} {rt : Option FieldType} (hcd : Cond.code y bytes maxL rt ∈ xw_G) (hlk : Cond.methodLink own idx y ∈ xw_G) (hsta : Cond.static y ∈ xw_G) (hini : Cond.initialized y.cls ∈ xw_G) : ∀ w ∈ va_wsS own idx y (Cond.code y bytes maxL rt :: xw_G), w ∈ xw_G := by
  intro w h
  rcases List.mem_append.mp h with h | h
  · simp only [List.mem_cons, List.not_mem_nil, or_false] at h
    rcases h with rfl | rfl | rfl
    · exact hlk
    · exact hsta
    · exact hini
  · exact xw_C hcd w h
section XCALL
variable {p : Program} {l : Launch} {e : Env} {R : Room} {s : State} {m : MethodId} {args : Array Value} {below : List Frame} {meth : Method} {c : Code} {D : va_G} {A : Nat → Prop} {Q : State → Prop}
/-- behind a call -/
theorem x_back {nL nc ns pc : Nat} {lv : List (Nat × Value)} {st rest : List Value} {ws w0 wr : va_W} {w1 : (Nat → Nat) → va_W} {res : (Nat → Nat) → Option Value} {k : KC} (hA : ∀ q, s.heap.size ≤ q → A q) (isC isR : List Nat) (hC : isC.map (fun i => ws[i]?) = w0.map some) (hR : isR.map (fun i => ws[i]?) = wr.map some) (hn : va_nd isR = true) (hdis : ∀ i ∈ isR, i ∉ isC)
    (kk : ∀ ad : Nat → Nat, XW (p, l, e, R, s, m, args, below, meth, c, D, A, Q) nL (wr ++ w1 ad) (nc + k.1) (ns + k.2) (pc + 3) lv ((res ad).toList ++ rest)) {H : Heap} {locs : List Loc} {ls : Array Slot} (hP : va_P D vwCl ws H) (hD : va_D A ws) (hS : va_S A s.heap H locs) (hl : lv_has ls nL lv)
    (hr : va_Run p l e R s m args below meth c H locs nc ns k.1 k.2 (F0 m pc ls st) rest (fun st oc t => (∃ ad : Nat → Nat, oc = .returned (res ad) ∧ va_P D vwCl (w1 ad) t.heap ∧ va_D (va_A w0 H.size) (w1 ad)) ∧ va_F (va_A w0 H.size) st t) (va_A w0 H.size)) : W p l e R s m args below meth c H locs nc ns Q (F0 m pc ls st) := by
  have hF := va_free (wc := w0) hD hS hA isC hC
  intro T hT X
  obtain ⟨v, st₀, t, T', L, h0, X', hL, e1, e2, ⟨⟨ad, hv, hP1, hD1⟩, hz, hk⟩, stp⟩ := hr T hT X
  cases hv
  rw [h0] at hz hk
  rw [← e1] at hP1 hz
  have hk' : ∀ q : Nat, q < H.size → ¬ va_A w0 H.size q → T'.heap[q]? = H[q]? := fun q h1 h2 => by rw [e1]; exact hk q h1 h2
  obtain ⟨hP2, hD2⟩ := va_join (wr := wr) (w1 := w1 ad) hP hD isC isR hC hR hn hdis hk' hF hP1 hD1
  obtain ⟨t2, a1, b1⟩ := kk ad T'.heap (locs ++ L) ls hP2 hD2 ⟨Nat.le_trans hS.1 hz, fun q h1 h2 => by
      rw [hk' q (Nat.lt_of_lt_of_le h1 hS.1) (fun z => h2 (hF q z))]
      exact hS.2.1 q h1 h2, fun q hq => by
      rcases List.mem_append.mp hq with h | h
      · exact hS.2.2 q h
      · exact hF _ (hL q h)⟩ hl T' rfl X'
  exact ⟨t2, stp t2 a1, b1⟩
end XCALL
section XR2
variable {X : XT} {l0 : Launch} {D0 : va_G} {cA : Nat → ClassId} {cc : ByteArray} {nL : Nat} {ret : Option FieldType} {own : String} {fr lo mc ms : Nat}
variable {ws w0 wr : va_W} {nc ns pc : Nat} {lv : List (Nat × Value)} {st rest As : List Value} {y : MethodName} {fr' lo' b idx maxL n : Nat} {k : KC} {res : (Nat → Nat) → Option Value} {w1 : (Nat → Nat) → va_W} {bytes : ByteArray} {rt : Option FieldType} {host C : String}
theorem x_callV (F : XF X l0 D0 cA cc nL ret own fr lo mc ms) (M : XM l0 D0 cA y bytes maxL rt fr' lo' (.ref b :: As) w0 k res w1) (hcd : Cond.code y bytes maxL rt ∈ xw_G) (hlk : Cond.methodLink own idx y ∈ xw_G) (him : Cond.instanceMethod y ∈ xw_G) (hsel : Cond.selects C y y ∈ xw_G) (hini : Cond.initialized C ∈ xw_G) (hd' : y.cls = C ∧ y.cls ≠ "java/lang/invoke/MethodHandle" ∧ y.cls ≠ "java/lang/invoke/VarHandle" ∧ (parseMethodDescriptor y.desc).map (fun d => d.parameters.length) = some n) (hn : As.length = n) (hfr : fr' + 1 ≤ fr) (hlo : 8 + (maxL + 11) + lo' ≤ lo)
    {ci : Nat} {q : vw_C} {fs : List Value} (hci : vwCl[ci]? = some q) (hq : q.1 = C) (qb : Nat) (hb' : w0[qb]? = some (b, .inr (ci, fs))) (isC isR : List Nat) (hC : isC.map (fun i => ws[i]?) = w0.map some) (hR : isR.map (fun i => ws[i]?) = wr.map some) (hnC : va_nd isC = true) (hnR : va_nd isR = true) (hdis : ∀ i ∈ isR, i ∉ isC) (hst : st = As.reverse ++ .ref b :: rest) (hrest : (rest.map fun v => v.category).sum ≤ 8) (hc : nc + k.1 ≤ mc) (hs : ns + k.2 ≤ ms) (hd : decode cc pc = .ok (.invokevirtual idx, 3))
    (kk : ∀ ad : Nat → Nat, XW X nL (wr ++ w1 ad) (nc + k.1) (ns + k.2) (pc + 3) lv ((res ad).toList ++ rest)) : XW X nL ws nc ns pc lv st := by
  obtain ⟨p, l, e, R, s, m, args, below, meth, c, D, A, Q⟩ := X
  obtain ⟨rfl, rfl, hx, hb, -, hml, hts, hown, -, hK, hA, hRf, hRl, hmc, hms⟩ := F
  intro H locs ls hP hD hS hl
  have hPc : va_P D vwCl w0 H := by
    intro j q hj
    have h1 : (isC.map (fun i => ws[i]?))[j]? = some (some q) := by rw [hC, List.getElem?_map, hj]; rfl
    rw [List.getElem?_map] at h1
    cases hi : isC[j]? with
    | none => rw [hi] at h1; cases h1
    | some i => rw [hi] at h1; exact hP i q (Option.some.inj h1)
  have hDc := hD.sub isC hnC hC
  subst hst
  subst hq
  refine x_back hA isC isR hC hR hnR hdis kk hP hD hS hl (va_runV (As := As) (rest := rest) ⟨hx, hb, hml, hown, hts⟩ (M H.size) (cwV n hts (xw_goodIn (xw_V hcd hlk him hsel hini)) rfl rfl rfl hd' ⟨Nat.le_trans hfr hRf, Nat.le_trans hlo hRl⟩) ⟨x_blind, va_recv hK.1 hPc hci hb', fun U hU hW => ⟨rfl, by rw [hU], by rw [hU]; exact hPc, xk_warm hW hK, hDc.weaken (fun _ _ _ _ => trivial)⟩⟩ rfl hn hl.1 rfl (by show 2 * 0 + _ ≤ 8; omega) hd ⟨Nat.le_trans hc hmc, Nat.le_trans hs hms⟩)
theorem x_callVN (F : XF X l0 D0 cA cc nL ret own fr lo mc ms) (M : XM l0 D0 cA y bytes maxL rt fr' lo' (.ref b :: As) w0 k res w1) (hcd : Cond.code y bytes maxL rt ∈ xw_G) (hl' : Cond.methodLinkNest own idx y host ∈ xn_W) (hini : Cond.initialized y.cls ∈ xw_G) (him : Cond.instanceMethod y ∈ xw_G) (hsel : Cond.selects C y y ∈ xw_G) (hd' : y.cls ≠ "java/lang/invoke/MethodHandle" ∧ y.cls ≠ "java/lang/invoke/VarHandle" ∧ (parseMethodDescriptor y.desc).map (fun d => d.parameters.length) = some n) (hn : As.length = n) (hfr : fr' + 1 ≤ fr) (hlo : 8 + (maxL + 11) + lo' ≤ lo)
    {ci : Nat} {q : vw_C} {fs : List Value} (hci : vwCl[ci]? = some q) (hq : q.1 = C) (qb : Nat) (hb' : w0[qb]? = some (b, .inr (ci, fs))) (isC isR : List Nat) (hC : isC.map (fun i => ws[i]?) = w0.map some) (hR : isR.map (fun i => ws[i]?) = wr.map some) (hnC : va_nd isC = true) (hnR : va_nd isR = true) (hdis : ∀ i ∈ isR, i ∉ isC) (hst : st = As.reverse ++ .ref b :: rest) (hrest : (rest.map fun v => v.category).sum ≤ 8) (hc : nc + k.1 ≤ mc) (hs : ns + k.2 ≤ ms) (hd : decode cc pc = .ok (.invokevirtual idx, 3))
    (kk : ∀ ad : Nat → Nat, XW X nL (wr ++ w1 ad) (nc + k.1) (ns + k.2) (pc + 3) lv ((res ad).toList ++ rest)) : XW X nL ws nc ns pc lv st := by
  obtain ⟨p, l, e, R, s, m, args, below, meth, c, D, A, Q⟩ := X
  obtain ⟨rfl, rfl, hx, hb, -, hml, hts, hown, -, hK, hA, hRf, hRl, hmc, hms⟩ := F
  intro H locs ls hP hD hS hl
  have hPc : va_P D vwCl w0 H := by
    intro j q hj
    have h1 : (isC.map (fun i => ws[i]?))[j]? = some (some q) := by rw [hC, List.getElem?_map, hj]; rfl
    rw [List.getElem?_map] at h1
    cases hi : isC[j]? with
    | none => rw [hi] at h1; cases h1
    | some i => rw [hi] at h1; exact hP i q (Option.some.inj h1)
  have hDc := hD.sub isC hnC hC
  subst hst
  subst hq
  refine x_back hA isC isR hC hR hnR hdis kk hP hD hS hl (va_runVN (As := As) (rest := rest) ⟨hx, hb, hml, hown, hts⟩ (M H.size) ⟨va_cnB n hts (xw_goodIn (xw_C hcd)) rfl rfl rfl (hK.2 _ hl') (hts _ hini) hd' ⟨Nat.le_trans hfr hRf, Nat.le_trans hlo hRl⟩, hts _ him, hts _ hsel⟩ ⟨x_blind, va_recv hK.1 hPc hci hb', fun U hU hW => ⟨rfl, by rw [hU], by rw [hU]; exact hPc, xk_warm hW hK, hDc.weaken (fun _ _ _ _ => trivial)⟩⟩ rfl hn hl.1 rfl (by show 2 * 0 + _ ≤ 8; omega) hd ⟨Nat.le_trans hc hmc, Nat.le_trans hs hms⟩)
theorem x_callS (F : XF X l0 D0 cA cc nL ret own fr lo mc ms) (M : XM l0 D0 cA y bytes maxL rt fr' lo' As w0 k res w1) (hcd : Cond.code y bytes maxL rt ∈ xw_G) (hlk : Cond.methodLink own idx y ∈ xw_G) (hsta : Cond.static y ∈ xw_G) (hini : Cond.initialized own ∈ xw_G) (hd' : y.cls = own ∧ y.cls ≠ "java/lang/invoke/MethodHandle" ∧ y.cls ≠ "java/lang/invoke/VarHandle" ∧ (parseMethodDescriptor y.desc).map (fun d => d.parameters.length) = some n) (hn : As.length = n) (hfr : fr' + 1 ≤ fr) (hlo : 8 + (maxL + 11) + lo' ≤ lo)
    (isC isR : List Nat) (hC : isC.map (fun i => ws[i]?) = w0.map some) (hR : isR.map (fun i => ws[i]?) = wr.map some) (hnC : va_nd isC = true) (hnR : va_nd isR = true) (hdis : ∀ i ∈ isR, i ∉ isC) (hst : st = As.reverse ++ rest) (hrest : (rest.map fun v => v.category).sum ≤ 8) (hc : nc + k.1 ≤ mc) (hs : ns + k.2 ≤ ms) (hd : decode cc pc = .ok (.invokestatic idx, 3))
    (kk : ∀ ad : Nat → Nat, XW X nL (wr ++ w1 ad) (nc + k.1) (ns + k.2) (pc + 3) lv ((res ad).toList ++ rest)) : XW X nL ws nc ns pc lv st := by
  obtain ⟨p, l, e, R, s, m, args, below, meth, c, D, A, Q⟩ := X
  obtain ⟨rfl, rfl, hx, hb, -, hml, hts, hown, -, hK, hA, hRf, hRl, hmc, hms⟩ := F
  intro H locs ls hP hD hS hl
  have hPc : va_P D vwCl w0 H := by
    intro j q hj
    have h1 : (isC.map (fun i => ws[i]?))[j]? = some (some q) := by rw [hC, List.getElem?_map, hj]; rfl
    rw [List.getElem?_map] at h1
    cases hi : isC[j]? with
    | none => rw [hi] at h1; cases h1
    | some i => rw [hi] at h1; exact hP i q (Option.some.inj h1)
  have hDc := hD.sub isC hnC hC
  subst hst
  refine x_back hA isC isR hC hR hnR hdis kk hP hD hS hl (va_runS (As := As) (rest := rest) ⟨hx, hb, hml, hown, hts⟩ (M H.size) (cwS n hts (xw_goodIn (xw_S hcd hlk hsta hini)) rfl rfl rfl hd' ⟨Nat.le_trans hfr hRf, Nat.le_trans hlo hRl⟩) ⟨x_blind, fun U hU hW => ⟨rfl, by rw [hU], by rw [hU]; exact hPc, xk_warm hW hK, hDc.weaken (fun _ _ _ _ => trivial)⟩⟩ rfl hn hl.1 rfl (by show 2 * 0 + _ ≤ 8; omega) hd ⟨Nat.le_trans hc hmc, Nat.le_trans hs hms⟩)
theorem x_callSO (F : XF X l0 D0 cA cc nL ret own fr lo mc ms) (M : XM l0 D0 cA y bytes maxL rt fr' lo' As w0 k res w1) (hcd : Cond.code y bytes maxL rt ∈ xw_G) (hlk : Cond.methodLink own idx y ∈ xw_G) (hsta : Cond.static y ∈ xw_G) (hini : Cond.initialized y.cls ∈ xw_G) (hd' : y.cls ≠ "java/lang/invoke/MethodHandle" ∧ y.cls ≠ "java/lang/invoke/VarHandle" ∧ (parseMethodDescriptor y.desc).map (fun d => d.parameters.length) = some n) (hn : As.length = n) (hfr : fr' + 1 ≤ fr) (hlo : 8 + (maxL + 11) + lo' ≤ lo)
    (isC isR : List Nat) (hC : isC.map (fun i => ws[i]?) = w0.map some) (hR : isR.map (fun i => ws[i]?) = wr.map some) (hnC : va_nd isC = true) (hnR : va_nd isR = true) (hdis : ∀ i ∈ isR, i ∉ isC) (hst : st = As.reverse ++ rest) (hrest : (rest.map fun v => v.category).sum ≤ 8) (hc : nc + k.1 ≤ mc) (hs : ns + k.2 ≤ ms) (hd : decode cc pc = .ok (.invokestatic idx, 3))
    (kk : ∀ ad : Nat → Nat, XW X nL (wr ++ w1 ad) (nc + k.1) (ns + k.2) (pc + 3) lv ((res ad).toList ++ rest)) : XW X nL ws nc ns pc lv st := by
  obtain ⟨p, l, e, R, s, m, args, below, meth, c, D, A, Q⟩ := X
  obtain ⟨rfl, rfl, hx, hb, -, hml, hts, hown, -, hK, hA, hRf, hRl, hmc, hms⟩ := F
  intro H locs ls hP hD hS hl
  have hPc : va_P D vwCl w0 H := by
    intro j q hj
    have h1 : (isC.map (fun i => ws[i]?))[j]? = some (some q) := by rw [hC, List.getElem?_map, hj]; rfl
    rw [List.getElem?_map] at h1
    cases hi : isC[j]? with
    | none => rw [hi] at h1; cases h1
    | some i => rw [hi] at h1; exact hP i q (Option.some.inj h1)
  have hDc := hD.sub isC hnC hC
  subst hst
  refine x_back hA isC isR hC hR hnR hdis kk hP hD hS hl (va_runS (As := As) (rest := rest) ⟨hx, hb, hml, hown, hts⟩ (M H.size) (va_cwS n hts (xw_goodIn (xw_SO hcd hlk hsta hini)) rfl rfl rfl hd' ⟨Nat.le_trans hfr hRf, Nat.le_trans hlo hRl⟩) ⟨x_blind, fun U hU hW => ⟨rfl, by rw [hU], by rw [hU]; exact hPc, xk_warm hW hK, hDc.weaken (fun _ _ _ _ => trivial)⟩⟩ rfl hn hl.1 rfl (by show 2 * 0 + _ ≤ 8; omega) hd ⟨Nat.le_trans hc hmc, Nat.le_trans hs hms⟩)
theorem x_callSN (F : XF X l0 D0 cA cc nL ret own fr lo mc ms) (M : XM l0 D0 cA y bytes maxL rt fr' lo' As w0 k res w1) (hcd : Cond.code y bytes maxL rt ∈ xw_G) (hl' : Cond.methodLinkNest own idx y host ∈ xn_W) (hini : Cond.initialized y.cls ∈ xw_G) (hsta : Cond.static y ∈ xw_G) (hd' : y.cls ≠ "java/lang/invoke/MethodHandle" ∧ y.cls ≠ "java/lang/invoke/VarHandle" ∧ (parseMethodDescriptor y.desc).map (fun d => d.parameters.length) = some n) (hn : As.length = n) (hfr : fr' + 1 ≤ fr) (hlo : 8 + (maxL + 11) + lo' ≤ lo)
    (isC isR : List Nat) (hC : isC.map (fun i => ws[i]?) = w0.map some) (hR : isR.map (fun i => ws[i]?) = wr.map some) (hnC : va_nd isC = true) (hnR : va_nd isR = true) (hdis : ∀ i ∈ isR, i ∉ isC) (hst : st = As.reverse ++ rest) (hrest : (rest.map fun v => v.category).sum ≤ 8) (hc : nc + k.1 ≤ mc) (hs : ns + k.2 ≤ ms) (hd : decode cc pc = .ok (.invokestatic idx, 3))
    (kk : ∀ ad : Nat → Nat, XW X nL (wr ++ w1 ad) (nc + k.1) (ns + k.2) (pc + 3) lv ((res ad).toList ++ rest)) : XW X nL ws nc ns pc lv st := by
  obtain ⟨p, l, e, R, s, m, args, below, meth, c, D, A, Q⟩ := X
  obtain ⟨rfl, rfl, hx, hb, -, hml, hts, hown, -, hK, hA, hRf, hRl, hmc, hms⟩ := F
  intro H locs ls hP hD hS hl
  have hPc : va_P D vwCl w0 H := by
    intro j q hj
    have h1 : (isC.map (fun i => ws[i]?))[j]? = some (some q) := by rw [hC, List.getElem?_map, hj]; rfl
    rw [List.getElem?_map] at h1
    cases hi : isC[j]? with
    | none => rw [hi] at h1; cases h1
    | some i => rw [hi] at h1; exact hP i q (Option.some.inj h1)
  have hDc := hD.sub isC hnC hC
  subst hst
  refine x_back hA isC isR hC hR hnR hdis kk hP hD hS hl (va_runSN (As := As) (rest := rest) ⟨hx, hb, hml, hown, hts⟩ (M H.size) ⟨va_cnB n hts (xw_goodIn (xw_C hcd)) rfl rfl rfl (hK.2 _ hl') (hts _ hini) hd' ⟨Nat.le_trans hfr hRf, Nat.le_trans hlo hRl⟩, hts _ hsta, trivial⟩ ⟨x_blind, fun U hU hW => ⟨rfl, by rw [hU], by rw [hU]; exact hPc, xk_warm hW hK, hDc.weaken (fun _ _ _ _ => trivial)⟩⟩ rfl hn hl.1 rfl (by show 2 * 0 + _ ≤ 8; omega) hd ⟨Nat.le_trans hc hmc, Nat.le_trans hs hms⟩)
theorem x_callI (F : XF X l0 D0 cA cc nL ret own fr lo mc ms) (M : XM l0 D0 cA y bytes maxL none fr' lo' (.ref b :: As) w0 k res w1) (hcd : Cond.code y bytes maxL none ∈ xw_G) (hy : y.name = "<init>") (hlk : Cond.methodLink own idx y ∈ xw_G) (hini : Cond.initialized y.cls ∈ xw_G) (him : Cond.instanceMethod y ∈ xw_G) (hd' : y.cls ≠ "java/lang/invoke/MethodHandle" ∧ y.cls ≠ "java/lang/invoke/VarHandle" ∧ (parseMethodDescriptor y.desc).map (fun d => d.parameters.length) = some n) (hn : As.length = n) (hfr : fr' + 1 ≤ fr) (hlo : 8 + (maxL + 11) + lo' ≤ lo)
    (isC isR : List Nat) (hC : isC.map (fun i => ws[i]?) = w0.map some) (hR : isR.map (fun i => ws[i]?) = wr.map some) (hnC : va_nd isC = true) (hnR : va_nd isR = true) (hdis : ∀ i ∈ isR, i ∉ isC) (hst : st = As.reverse ++ .ref b :: rest) (hrest : (rest.map fun v => v.category).sum ≤ 8) (hc : nc + k.1 ≤ mc) (hs : ns + k.2 ≤ ms) (hd : decode cc pc = .ok (.invokespecial idx, 3))
    (kk : ∀ ad : Nat → Nat, XW X nL (wr ++ w1 ad) (nc + k.1) (ns + k.2) (pc + 3) lv ((res ad).toList ++ rest)) : XW X nL ws nc ns pc lv st := by
  obtain ⟨p, l, e, R, s, m, args, below, meth, c, D, A, Q⟩ := X
  obtain ⟨rfl, rfl, hx, hb, -, hml, hts, hown, -, hK, hA, hRf, hRl, hmc, hms⟩ := F
  intro H locs ls hP hD hS hl
  have hPc : va_P D vwCl w0 H := by
    intro j q hj
    have h1 : (isC.map (fun i => ws[i]?))[j]? = some (some q) := by rw [hC, List.getElem?_map, hj]; rfl
    rw [List.getElem?_map] at h1
    cases hi : isC[j]? with
    | none => rw [hi] at h1; cases h1
    | some i => rw [hi] at h1; exact hP i q (Option.some.inj h1)
  have hDc := hD.sub isC hnC hC
  subst hst
  refine x_back hA isC isR hC hR hnR hdis kk hP hD hS hl (va_runI (As := As) (rest := rest) ⟨hx, hb, hml, hown, hts⟩ (M H.size) (cwI n hts (xw_goodIn (xw_C hcd)) rfl rfl rfl (hts _ hini) (hts _ hlk) (hts _ him) hy hd' ⟨Nat.le_trans hfr hRf, Nat.le_trans hlo hRl⟩) ⟨x_blind, fun U hU hW => ⟨rfl, by rw [hU], by rw [hU]; exact hPc, xk_warm hW hK, hDc.weaken (fun _ _ _ _ => trivial)⟩⟩ rfl hn hl.1 rfl (by show 2 * 0 + _ ≤ 8; omega) hd ⟨Nat.le_trans hc hmc, Nat.le_trans hs hms⟩)
end XR2
def xe_ok (cc : ByteArray) (ret : Option FieldType) (pc : Nat) (r : Option Value) (st : List Value) : Prop :=
  (r = none ∧ st = [] ∧ ret = none ∧ decode cc pc = .ok (.return_, 1)) ∨ (∃ (v : Int32) (ty : FieldType), r = some (.int v) ∧ st = [.int v] ∧ ret = some ty ∧ narrow ty (.int v) = .int v ∧ decode cc pc = .ok (.ireturn, 1)) ∨ (∃ v : Int64, r = some (.long v) ∧ st = [.long v] ∧ ret = some .long ∧ decode cc pc = .ok (.lreturn, 1)) ∨ (∃ (a : Nat) (rt : FieldType), r = some (.ref a) ∧ st = [.ref a] ∧ ret = some rt ∧ ((∃ n, rt = .object n) ∨ ∃ t, rt = .array t) ∧ decode cc pc = .ok (.areturn, 1))
/-- at a method's end: with its last world and its answer, it is done -/
def XE (X : XT) (cc : ByteArray) (nL : Nat) (ret : Option FieldType) (k : KC) (res : (Nat → Nat) → Option Value) (w1 : (Nat → Nat) → va_W) : Prop := ∀ (ad : Nat → Nat) (pc : Nat) (lv : List (Nat × Value)) (st : List Value), xe_ok cc ret pc (res ad) st → XW X nL (w1 ad) k.1 k.2 pc lv st
theorem xe_v {X : XT} {cc : ByteArray} {nL : Nat} {k : KC} {w1 : (Nat → Nat) → va_W} {nc ns : Nat} (E : XE X cc nL none k (fun _ => none) w1) (ad : Nat → Nat) {pc : Nat} {lv : List (Nat × Value)} (hk1 : k.1 = nc) (hk2 : k.2 = ns) (hd : decode cc pc = .ok (.return_, 1)) : XW X nL (w1 ad) nc ns pc lv [] := by
  subst hk1; subst hk2
  exact E ad pc lv [] (Or.inl ⟨rfl, rfl, rfl, hd⟩)
theorem xe_i {X : XT} {cc : ByteArray} {nL : Nat} {ty : FieldType} {k : KC} {r v : Int32} {w1 : (Nat → Nat) → va_W} {nc ns : Nat} (E : XE X cc nL (some ty) k (fun _ => some (.int r)) w1) (ad : Nat → Nat) {pc : Nat} {lv : List (Nat × Value)} (hk1 : k.1 = nc) (hk2 : k.2 = ns) (hr : r = v) (hn : narrow ty (.int v) = .int v) (hd : decode cc pc = .ok (.ireturn, 1)) : XW X nL (w1 ad) nc ns pc lv [.int v] := by
  subst hk1; subst hk2; subst hr
  exact E ad pc lv _ (Or.inr (Or.inl ⟨r, ty, rfl, rfl, rfl, hn, hd⟩))
theorem xe_l {X : XT} {cc : ByteArray} {nL : Nat} {k : KC} {r v : Int64} {w1 : (Nat → Nat) → va_W} {nc ns : Nat} (E : XE X cc nL (some .long) k (fun _ => some (.long r)) w1) (ad : Nat → Nat) {pc : Nat} {lv : List (Nat × Value)} (hk1 : k.1 = nc) (hk2 : k.2 = ns) (hr : r = v) (hd : decode cc pc = .ok (.lreturn, 1)) : XW X nL (w1 ad) nc ns pc lv [.long v] := by
  subst hk1; subst hk2; subst hr
  exact E ad pc lv _ (Or.inr (Or.inr (Or.inl ⟨r, rfl, rfl, rfl, hd⟩)))
theorem xe_r {X : XT} {cc : ByteArray} {nL : Nat} {rt : FieldType} {k : KC} {a : Nat} {w1 : (Nat → Nat) → va_W} {nc ns : Nat} (E : XE X cc nL (some rt) k (fun ad => some (.ref (ad 0))) w1) (ad : Nat → Nat) {pc : Nat} {lv : List (Nat × Value)} (hk1 : k.1 = nc) (hk2 : k.2 = ns) (ha : a = ad 0) (hrt : (∃ n, rt = .object n) ∨ ∃ t, rt = .array t) (hd : decode cc pc = .ok (.areturn, 1)) : XW X nL (w1 ad) nc ns pc lv [.ref a] := by
  subst hk1; subst hk2; subst ha
  exact E ad pc lv _ (Or.inr (Or.inr (Or.inr ⟨_, rt, rfl, rfl, rfl, hrt, hd⟩)))
theorem x_met {l : Launch} {D : va_G} {cA : Nat → ClassId} {y : MethodName} {fr lo : Nat} {av : List Value} {w0 : va_W} {k : KC} {res : (Nat → Nat) → Option Value} {w1 : (Nat → Nat) → va_W} {cc : ByteArray} {nL : Nat} {ret : Option FieldType} (own : String) (hy : plainName y.cls = true) (hlen : (lg_sl av).length ≤ nL) (hown : y.cls = own)
    (body : ∀ X : XT, XF X l D cA cc nL ret own fr lo k.1 k.2 → (y.name = "<init>" → XI X) → XE X cc nL ret k res w1 → XW X nL w0 0 0 0 (lv_args 0 av) []) : XM l D cA y cc nL ret fr lo av w0 k res w1 := by
  intro sz
  refine Met.ofW (cc := cc) (maxL := nL) (ret := ret) hy rfl ?_
  intro p e s m args below meth c s₁ B hml hv
  obtain ⟨rfl, hsz, hP, hK, hD0⟩ := hv
  have hx := B.exec
  have hb := B.bytes
  have hr := B.returns
  have hts0 := atoms_spec (ws := .code y cc nL ret :: xw_G) B.pre
  have hts : ∀ w ∈ xw_G, w.before av.toArray s = true := fun w h => hts0 w (List.mem_cons_of_mem _ h)
  have hcl : s.vm.findClass own = some m.cls := by rw [← hown]; exact findClass_of_methodNamed B.named
  have hlocks : meth.locks = false := B.notSynchronized
  have hin : y.name = "<init>" → meth.name = "<init>" := fun h => by rw [← h]; exact (name_of_methodNamed B.named B.method).1
  subst hsz
  have hD := hD0.self (sz := s.heap.size)
  have hA : ∀ q : Nat, s.heap.size ≤ q → va_A w0 s.heap.size q := fun q h => Or.inr h
  rw [lg_entry_eq]
  refine body (p, l, e, _, s, m, av.toArray, below, meth, c, D, va_A w0 s.heap.size, _) ⟨rfl, rfl, hx, hb, hr, hml, hts, hcl, hlocks, hK, hA, Nat.le_refl _, Nat.le_refl _, Nat.le_refl _, Nat.le_refl _⟩ hin ?_ s.heap [] _ hP hD va_S.rf (lv_entry av hlen)
  intro ad pc lv st hok H locs ls hP1 hD1 hS hl
  rcases hok with ⟨h1, rfl, h3, h4⟩ | ⟨v, ty, h1, rfl, h3, h4, h5⟩ | ⟨v, h1, rfl, h3, h4⟩ | ⟨a, rt, h1, rfl, h3, h4, h5⟩
  · exact W.vret hx hb (by rw [hr]; exact h3) (fun t ht hW => ⟨⟨ad, by rw [h1], by rw [ht]; exact hP1, hD1⟩, hS.F ht⟩) hS.2.2 h4
  · exact W.zret hx hb (by rw [hr]; exact h3) h4 (fun t ht hW => ⟨⟨ad, by rw [h1], by rw [ht]; exact hP1, hD1⟩, hS.F ht⟩) hS.2.2 h5
  · exact W.lret hx hb (by rw [hr]; exact h3) (fun t ht hW => ⟨⟨ad, by rw [h1], by rw [ht]; exact hP1, hD1⟩, hS.F ht⟩) hS.2.2 h4
  · exact W.aret hx hb (by rw [hr]; exact h3) h4 (Or.inr ⟨a, rfl⟩) (fun t ht hW => ⟨⟨ad, by rw [h1], by rw [ht]; exact hP1, hD1⟩, hS.F ht⟩) hS.2.2 h5
/-- addresses by a list -/
def xa (q : List Nat) : Nat → Nat := fun i => q.getD i 0
theorem xz_0 : narrow .boolean (.int 0) = .int 0 := rfl
theorem xz_1 : narrow .boolean (.int 1) = .int 1 := rfl
theorem xz_i (v : Int32) : narrow .int (.int v) = .int v := rfl
section XR3
variable {X : XT} {l0 : Launch} {D0 : va_G} {cA : Nat → ClassId} {cc : ByteArray} {nL : Nat} {ret : Option FieldType} {own : String} {fr lo mc ms : Nat}
variable {ws : va_W} {nc ns pc : Nat} {lv : List (Nat × Value)} {st : List Value}
theorem x_i2b (F : XF X l0 D0 cA cc nL ret own fr lo mc ms) {x v : Int32} (hd : decode cc pc = .ok (.i2b, 1)) (hv : x.toInt8.toInt32 = v) (k : XW X nL ws nc ns (pc + 1) lv (.int v :: st)) : XW X nL ws nc ns pc lv (.int x :: st) := by
  obtain ⟨p, l, e, R, s, m, args, below, meth, c, D, A, Q⟩ := X
  obtain ⟨rfl, rfl, hx, hb, -⟩ := F
  exact fun H locs ls hP hD hS hl => lv_i2b hx hb hd hv (k H locs ls hP hD hS hl)
theorem x_lcmp (F : XF X l0 D0 cA cc nL ret own fr lo mc ms) {x y : Int64} (hd : decode cc pc = .ok (.lcmp, 1)) (k : XW X nL ws nc ns (pc + 1) lv (.int (lg_cmp x y) :: st)) : XW X nL ws nc ns pc lv (.long y :: .long x :: st) := by
  obtain ⟨p, l, e, R, s, m, args, below, meth, c, D, A, Q⟩ := X
  obtain ⟨rfl, rfl, hx, hb, -⟩ := F
  exact fun H locs ls hP hD hS hl => W.lcmp hx hb hd (k H locs ls hP hD hS hl)
theorem x_lshl (F : XF X l0 D0 cA cc nL ret own fr lo mc ms) {x v : Int64} {y : Int32} (hd : decode cc pc = .ok (.lshl, 1)) (hv : x <<< (y.toInt64 &&& 63) = v) (k : XW X nL ws nc ns (pc + 1) lv (.long v :: st)) : XW X nL ws nc ns pc lv (.int y :: .long x :: st) := by
  obtain ⟨p, l, e, R, s, m, args, below, meth, c, D, A, Q⟩ := X
  obtain ⟨rfl, rfl, hx, hb, -⟩ := F
  exact fun H locs ls hP hD hS hl => lv_lshl hx hb hd hv (k H locs ls hP hD hS hl)
theorem x_lshr (F : XF X l0 D0 cA cc nL ret own fr lo mc ms) {x v : Int64} {y : Int32} (hd : decode cc pc = .ok (.lshr, 1)) (hv : x >>> (y.toInt64 &&& 63) = v) (k : XW X nL ws nc ns (pc + 1) lv (.long v :: st)) : XW X nL ws nc ns pc lv (.int y :: .long x :: st) := by
  obtain ⟨p, l, e, R, s, m, args, below, meth, c, D, A, Q⟩ := X
  obtain ⟨rfl, rfl, hx, hb, -⟩ := F
  exact fun H locs ls hP hD hS hl => lv_lshr hx hb hd hv (k H locs ls hP hD hS hl)
end XR3
def xm_z {β : Type} (v : Int32) (x : MO β) : MO β := if v = 0 ∨ v = 1 then x else none
theorem xm_z_some {β : Type} {v : Int32} {x : MO β} {o : β × KC} (h : xm_z v x = some o) : narrow .boolean (.int v) = .int v ∧ x = some o := by
  unfold xm_z at h
  by_cases hc : v = 0 ∨ v = 1
  · rw [if_pos hc] at h
    rcases hc with rfl | rfl
    · exact ⟨rfl, h⟩
    · exact ⟨rfl, h⟩
  · rw [if_neg hc] at h; cases h
/-- the law's script: a row that nobody writes -/
def XS (X : XT) (b : Nat) (sc : Ar) : Prop := match X with
  | (_, _, _, _, s, _, _, _, _, _, _, A, _) => va_X b sc.1 sc.2 s s.heap ∧ b < s.heap.size ∧ ¬ A b
section XR4
variable {X : XT} {l0 : Launch} {D0 : va_G} {cA : Nat → ClassId} {cc : ByteArray} {nL : Nat} {ret : Option FieldType} {own : String} {fr lo mc ms : Nat}
variable {ws : va_W} {nc ns pc : Nat} {lv : List (Nat × Value)} {st : List Value}
theorem x_sld (F : XF X l0 D0 cA cc nL ret own fr lo mc ms) {b : Nat} {sc : Ar} (SF : XS X b sc) {i v : Int32} (hv : v = sc.2 i.toNatClampNeg) (hin : vp_in i sc.1) (hd : decode cc pc = .ok (.iaload, 1)) (k : XW X nL ws nc ns (pc + 1) lv (.int v :: st)) : XW X nL ws nc ns pc lv (.int i :: .ref b :: st) := by
  obtain ⟨p, l, e, R, s, m, args, below, meth, c, D, A, Q⟩ := X
  obtain ⟨rfl, rfl, hx, hb, -⟩ := F
  obtain ⟨h1, h2, h3⟩ := SF
  subst hv
  exact fun H locs ls hP hD hS hl => va_sld hx hb h1 h2 h3 hS hin hd (k H locs ls hP hD hS hl)
theorem x_slen (F : XF X l0 D0 cA cc nL ret own fr lo mc ms) {b : Nat} {sc : Ar} (SF : XS X b sc) (hd : decode cc pc = .ok (.arraylength, 1)) (k : XW X nL ws nc ns (pc + 1) lv (.int (nI sc.1) :: st)) : XW X nL ws nc ns pc lv (.ref b :: st) := by
  obtain ⟨p, l, e, R, s, m, args, below, meth, c, D, A, Q⟩ := X
  obtain ⟨rfl, rfl, hx, hb, -⟩ := F
  obtain ⟨h1, h2, h3⟩ := SF
  exact fun H locs ls hP hD hS hl => va_slen hx hb h1 h2 h3 hS hd (k H locs ls hP hD hS hl)
theorem x_mrg {k1 : KC} {M : Nat} {v : Int32} {st0 : List Value} (J : XW X nL ws (nc + k1.1) (ns + k1.2) M lv (.int v :: st)) (K : XW X nL ws (nc + k1.1) (ns + k1.2) M lv (.int v :: st) → XW X nL ws nc ns pc lv st0) : XW X nL ws nc ns pc lv st0 := K J
end XR4
