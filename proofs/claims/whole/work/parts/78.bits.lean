/-! PURE: the bits of a written long -/
def bwVal (x : Int64) : Nat := x.toBitVec.toNat
theorem pu_sub {a b : Nat} (h : b ≤ a) : nI a - nI b = nI (a - b) := by
  have e : nI a = nI (a - b) + nI b := by rw [pu_add]; exact congrArg nI (by omega)
  rw [e, Int32.add_sub_cancel]
theorem pu_amt : ∀ i, i < 8 → ((nI (8 * i)).toInt64.toUInt64 &&& Int64.toUInt64 63).toNat % 64 = 8 * i := by decide
theorem pu_shr (x : Int64) {i : Nat} (h : i < 8) : bwVal (bw_ushr x (nI (8 * i))) = bwVal x / 2 ^ (8 * i) := by
  show (x.toUInt64 >>> ((nI (8 * i)).toInt64.toUInt64 &&& Int64.toUInt64 63)).toNat = x.toUInt64.toNat / 2 ^ (8 * i)
  rw [UInt64.toNat_shiftRight, pu_amt i h, Nat.shiftRight_eq_div_pow]
theorem pu_and (n : Nat) : n &&& 255 = n % 256 := Nat.and_two_pow_sub_one_eq_mod n 8
theorem pu_c64n (x : Int64) : bwVal (x &&& 255) = bwVal x % 256 := by
  show (x &&& 255).toBitVec.toNat = _
  rw [Int64.toBitVec_and, BitVec.toNat_and]
  exact pu_and _
theorem pu_cI (x : Int64) : (x &&& 255).toInt = ((bwVal x % 256 : Nat) : Int) := by
  have h := pu_c64n x
  have h2 : bwVal x % 256 < 256 := Nat.mod_lt _ (by omega)
  show (x &&& 255).toBitVec.toInt = _
  rw [BitVec.toInt_eq_toNat_of_lt (by show 2 * bwVal (x &&& 255) < 2 ^ 64; omega)]
  exact congrArg Nat.cast h
theorem pu_t32 (x : Int64) : x.toInt32.toBitVec.toNat = bwVal x % 2 ^ 32 := by
  show (x.toBitVec.signExtend 32).toNat = _
  rw [BitVec.signExtend_eq_setWidth_of_le _ (by omega), BitVec.toNat_setWidth]
  rfl
theorem pu_nIb {n : Nat} (h : n < 1000) : (nI n).toBitVec.toNat = n := by
  show (BitVec.ofNat 32 n).toNat = n
  rw [BitVec.toNat_ofNat]
  omega
theorem pu_c32 (x : Int64) : x.toInt32 &&& 255 = nI (bwVal x % 256) := by
  have h2 : bwVal x % 256 < 256 := Nat.mod_lt _ (by omega)
  refine Int32.toBitVec_inj.mp (BitVec.eq_of_toNat_eq ?_)
  rw [pu_nIb (by omega), Int32.toBitVec_and, BitVec.toNat_and, pu_t32]
  refine (pu_and _).trans ?_
  omega
theorem pu_c6432 (x : Int64) : (x &&& 255).toInt32 = nI (bwVal x % 256) := by
  have h2 : bwVal x % 256 < 256 := Nat.mod_lt _ (by omega)
  refine Int32.toBitVec_inj.mp (BitVec.eq_of_toNat_eq ?_)
  rw [pu_nIb (by omega), pu_t32, pu_c64n]
  omega
set_option maxRecDepth 100000 in
theorem pu_i2c : ∀ c, c < 256 → (((nI c).toUInt32 % 65536).toInt32) = nI c := by decide
set_option maxRecDepth 100000 in
theorem pu_nar : ∀ c, c < 256 → vp_nar .char (nI c) = nI c := by decide
theorem pu_cmp0 (x : Int64) : lg_cmp x 0 = 0 ↔ bwVal x = 0 := by
  have k : x = 0 ↔ bwVal x = 0 := by
    refine ⟨fun h => by rw [h]; rfl, fun h => ?_⟩
    exact Int64.toBitVec_inj.mp (BitVec.eq_of_toNat_eq h)
  rw [← k]
  unfold lg_cmp
  by_cases h : x > 0
  · rw [if_pos h]
    refine ⟨fun q => absurd q (by decide), fun q => ?_⟩
    rw [q] at h
    exact absurd h (by decide)
  · rw [if_neg h]
    by_cases h3 : x = 0
    · rw [if_pos h3]; exact ⟨fun _ => h3, fun _ => rfl⟩
    · rw [if_neg h3]; exact ⟨fun q => absurd q (by decide), fun q => absurd q h3⟩
theorem pu_inj {x y : Int64} (h : bwVal x = bwVal y) : x = y := Int64.toBitVec_inj.mp (BitVec.eq_of_toNat_eq h)
