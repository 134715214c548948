/-! shifts -/
theorem zmm (a : Int) (M p : Nat) (hM : 0 < M) : ((a % (M : Int)).toNat * p) % M = ((a * (p : Int)) % (M : Int)).toNat := by
  have h1 : (0 : Int) ≤ a % (M : Int) := Int.emod_nonneg _ (by omega)
  obtain ⟨r, hr⟩ : ∃ r : Nat, a % (M : Int) = r := ⟨(a % (M : Int)).toNat, by omega⟩
  have e : (a * (p : Int)) % (M : Int) = ((r * p % M : Nat) : Int) := by
    rw [Int.mul_emod, hr, Int.natCast_emod, Int.natCast_mul, Int.mul_emod (r : Int) (p : Int), Int.mul_emod (r : Int) ((p : Int) % (M : Int)), Int.emod_emod_of_dvd _ (Int.dvd_refl _)]
  rw [e, hr, Int.toNat_natCast, Int.toNat_natCast]
theorem zsh32 : ∀ k : Nat, k < 32 → ((zI (k : Int)) &&& 31).toBitVec.smod 32 = BitVec.ofNat 32 k := by decide +kernel
theorem zsh64 : ∀ k : Nat, k < 64 → ((zI (k : Int)).toInt64 &&& 63).toBitVec.smod 64 = BitVec.ofNat 64 k := by decide +kernel
theorem zsu64 : ∀ k : Nat, k < 64 → ((zI (k : Int)).toInt64.toUInt64 &&& Int64.toUInt64 63).toNat % 64 = k := by decide +kernel
theorem zI_shl (a : Int) {b : Int} (h : 0 ≤ b ∧ b < 32) : zI a <<< (zI b &&& 31) = zI (a * 2 ^ b.toNat) := by
  obtain ⟨k, rfl⟩ : ∃ k : Nat, b = k := ⟨b.toNat, by omega⟩
  have hk : k < 32 := by omega
  rw [Int.toNat_natCast]
  apply Int32.toBitVec_inj.mp
  apply BitVec.eq_of_toNat_eq
  rw [pk_shl _ _ k (by rw [zsh32 k hk, BitVec.toNat_ofNat, Nat.mod_eq_of_lt (by omega)]), zI_bv, zI_bv, BitVec.toNat_ofInt, BitVec.toNat_ofInt, zmm _ _ _ (by decide), Int.natCast_pow]
  rfl
theorem zI_shr {a b : Int} (ha : -2147483648 ≤ a ∧ a < 2147483648) (h : 0 ≤ b ∧ b < 32) : zI a >>> (zI b &&& 31) = zI (a / 2 ^ b.toNat) := by
  obtain ⟨k, rfl⟩ : ∃ k : Nat, b = k := ⟨b.toNat, by omega⟩
  have hk : k < 32 := by omega
  rw [Int.toNat_natCast]
  have hp : (0 : Int) < 2 ^ k := Int.pow_pos (by decide)
  have hb : -2147483648 ≤ a / 2 ^ k ∧ a / 2 ^ k < 2147483648 := by
    rcases Int.lt_or_le a 0 with h0 | h0
    · have h1 : a ≤ a / 2 ^ k := by
        apply Int.le_ediv_of_mul_le hp
        have : a * 2 ^ k ≤ a * 1 := Int.mul_le_mul_of_nonpos_left (by omega) (by omega)
        omega
      have h2 : a / 2 ^ k < 0 := Int.ediv_neg_of_neg_of_pos h0 hp
      omega
    · have h1 : a / 2 ^ k ≤ a := Int.ediv_le_self _ h0
      have h2 : 0 ≤ a / 2 ^ k := Int.ediv_nonneg h0 (by omega)
      omega
  apply Int32.toInt_inj.mp
  rw [pk_shr _ _ k (by rw [zsh32 k hk, BitVec.toNat_ofNat, Nat.mod_eq_of_lt (by omega)]), zI_t ha, zI_t hb, Int.shiftRight_eq_div_pow, Int.natCast_pow]
  rfl
theorem zJ_shl (a : Int) {b : Int} (h : 0 ≤ b ∧ b < 64) : zJ a <<< ((zI b).toInt64 &&& 63) = zJ (a * 2 ^ b.toNat) := by
  obtain ⟨k, rfl⟩ : ∃ k : Nat, b = k := ⟨b.toNat, by omega⟩
  have hk : k < 64 := by omega
  rw [Int.toNat_natCast]
  apply Int64.toBitVec_inj.mp
  apply BitVec.eq_of_toNat_eq
  rw [Int64.toBitVec_shiftLeft, zsh64 k hk, BitVec.shiftLeft_eq', BitVec.toNat_shiftLeft, Nat.shiftLeft_eq, BitVec.toNat_ofNat, Nat.mod_eq_of_lt (show k < 2 ^ 64 by omega), zJ_bv, zJ_bv, BitVec.toNat_ofInt, BitVec.toNat_ofInt, zmm _ _ _ (by decide), Int.natCast_pow]
  rfl
theorem zJ_shr {a b : Int} (ha : -9223372036854775808 ≤ a ∧ a < 9223372036854775808) (h : 0 ≤ b ∧ b < 64) : zJ a >>> ((zI b).toInt64 &&& 63) = zJ (a / 2 ^ b.toNat) := by
  obtain ⟨k, rfl⟩ : ∃ k : Nat, b = k := ⟨b.toNat, by omega⟩
  have hk : k < 64 := by omega
  rw [Int.toNat_natCast]
  have hp : (0 : Int) < 2 ^ k := Int.pow_pos (by decide)
  have hb : -9223372036854775808 ≤ a / 2 ^ k ∧ a / 2 ^ k < 9223372036854775808 := by
    rcases Int.lt_or_le a 0 with h0 | h0
    · have h1 : a ≤ a / 2 ^ k := by
        apply Int.le_ediv_of_mul_le hp
        have : a * 2 ^ k ≤ a * 1 := Int.mul_le_mul_of_nonpos_left (by omega) (by omega)
        omega
      have h2 : a / 2 ^ k < 0 := Int.ediv_neg_of_neg_of_pos h0 hp
      omega
    · have h1 : a / 2 ^ k ≤ a := Int.ediv_le_self _ h0
      have h2 : 0 ≤ a / 2 ^ k := Int.ediv_nonneg h0 (by omega)
      omega
  apply Int64.toInt_inj.mp
  show ((zJ a).toBitVec.sshiftRight (((zI (k : Int)).toInt64 &&& 63).toBitVec.smod 64).toNat).toInt = _
  rw [zsh64 k hk, BitVec.toNat_ofNat, Nat.mod_eq_of_lt (show k < 2 ^ 64 by omega), BitVec.toInt_sshiftRight, Int.shiftRight_eq_div_pow]
  show (zJ a).toInt / _ = _
  rw [zJ_t ha, zJ_t hb, Int.natCast_pow]
  rfl
theorem zJ_ushr (a : Int) {b : Int} (h : 0 ≤ b ∧ b < 64) : ((zJ a).toUInt64 >>> ((zI b).toInt64.toUInt64 &&& Int64.toUInt64 63)).toInt64 = zJ ((a % 18446744073709551616) / 2 ^ b.toNat) := by
  obtain ⟨k, rfl⟩ : ∃ k : Nat, b = k := ⟨b.toNat, by omega⟩
  have hk : k < 64 := by omega
  rw [Int.toNat_natCast]
  apply Int64.toBitVec_inj.mp
  apply BitVec.eq_of_toNat_eq
  show ((zJ a).toUInt64 >>> ((zI (k : Int)).toInt64.toUInt64 &&& Int64.toUInt64 63)).toNat = _
  rw [UInt64.toNat_shiftRight, zsu64 k hk, Nat.shiftRight_eq_div_pow, zJ_bv, BitVec.toNat_ofInt]
  show (zJ a).toBitVec.toNat / _ = _
  rw [zJ_bv, BitVec.toNat_ofInt]
  obtain ⟨r, hr⟩ : ∃ r : Nat, a % 18446744073709551616 = r := ⟨(a % 18446744073709551616).toNat, by omega⟩
  have hrl : r < 18446744073709551616 := by omega
  have e1 : a % ((2 ^ 64 : Nat) : Int) = (r : Int) := hr
  have e2 : (r : Int) / 2 ^ k = ((r / 2 ^ k : Nat) : Int) := by rw [Int.natCast_ediv, Int.natCast_pow]; rfl
  rw [e1, hr, e2, Int.toNat_natCast]
  have h3 : r / 2 ^ k ≤ r := Nat.div_le_self _ _
  generalize r / 2 ^ k = z at h3 ⊢
  rw [Int.emod_eq_of_lt (by omega) (by show (z : Int) < 18446744073709551616; omega), Int.toNat_natCast]
