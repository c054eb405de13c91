/-! a path's bytes -/
def wN (p : Int64) : Nat := p.toBitVec.toNat
theorem wN_lt (p : Int64) : wN p < 2 ^ 64 := p.toBitVec.isLt
theorem w_and (p : Int64) : wN (p &&& 255) = wN p % 256 := by
  unfold wN
  rw [Int64.toBitVec_and, BitVec.toNat_and]
  have e : (255 : Int64).toBitVec.toNat = 2 ^ 8 - 1 := by decide +kernel
  rw [e, Nat.and_two_pow_sub_one_eq_mod]
theorem w_int (p : Int64) (h : wN p < 256) : p.toInt32 = nI (wN p) := by
  apply Int32.toBitVec_inj.mp
  apply BitVec.eq_of_toNat_eq
  unfold wN at h ⊢
  show (p.toBitVec.signExtend 32).toNat = _
  rw [BitVec.signExtend_eq_setWidth_of_le _ (by decide), BitVec.toNat_setWidth, Nat.mod_eq_of_lt (by omega)]
  unfold nI
  show _ = (BitVec.ofNat 32 _).toNat
  rw [BitVec.toNat_ofNat, Nat.mod_eq_of_lt (by omega)]
theorem w_byte (p : Int64) : (p &&& 255).toInt32 = nI (wN p % 256) := by
  have h := w_and p
  rw [← h]
  exact w_int _ (by rw [h]; exact Nat.mod_lt _ (by decide))
theorem w_shr (p : Int64) (k : UInt64) (n : Nat) (hk : k.toNat = n) (hn : n < 64) : wN ((p.toUInt64 >>> k).toInt64) = wN p / 2 ^ n := by
  unfold wN
  show (p.toUInt64 >>> k).toNat = p.toUInt64.toNat / 2 ^ n
  rw [UInt64.toNat_shiftRight, hk, Nat.mod_eq_of_lt hn, Nat.shiftRight_eq_div_pow]
theorem w_z (p : Int64) : lg_cmp (p &&& 255) 0 = 0 ↔ wN p % 256 = 0 := by
  have h := w_and p
  have e0 : (p &&& 255 = 0) ↔ wN p % 256 = 0 := by
    rw [← h]
    constructor
    · intro q; rw [q]; rfl
    · intro q
      apply Int64.toBitVec_inj.mp
      apply BitVec.eq_of_toNat_eq
      exact q
  rw [← e0]
  unfold lg_cmp
  by_cases h1 : (p &&& 255) > 0
  · rw [if_pos h1]
    refine ⟨fun q => absurd q (by decide), fun q => ?_⟩
    rw [q] at h1
    exact absurd h1 (by decide)
  · rw [if_neg h1]
    by_cases h2 : p &&& 255 = 0
    · rw [if_pos h2]; exact ⟨fun _ => h2, fun _ => rfl⟩
    · rw [if_neg h2]; exact ⟨fun q => absurd q (by decide), fun q => absurd q h2⟩
theorem w_sh8 (p : Int64) : wN ((p.toUInt64 >>> ((8 : Int32).toInt64.toUInt64 &&& Int64.toUInt64 63)).toInt64) = wN p / 256 := w_shr p _ 8 (by decide +kernel) (by decide)
theorem w_at (p : Int64) {i : Nat} (hi : i < 8) : (((p.toUInt64 >>> (((8 : Int32) * (nI i)).toInt64.toUInt64 &&& Int64.toUInt64 63)).toInt64 &&& (255 : Int64))).toInt32 = nI (wN p / 256 ^ i % 256) := by
  have e : ∀ i, i < 8 → ((((8 : Int32) * (nI i)).toInt64.toUInt64 &&& Int64.toUInt64 63).toNat = 8 * i) := by decide +kernel
  rw [w_byte, w_shr p _ (8 * i) (e i hi) (by omega), Nat.pow_mul]
