theorem z2p {a b : Nat} (h : a ≤ b) : (2 : Int) ^ a ≤ 2 ^ b := by
  have h1 : (2 : Nat) ^ a ≤ 2 ^ b := Nat.pow_le_pow_right (by decide) h
  have h2 : (((2 : Nat) ^ a : Nat) : Int) ≤ (((2 : Nat) ^ b : Nat) : Int) := Int.ofNat_le.mpr h1
  rwa [Int.natCast_pow, Int.natCast_pow] at h2
section
variable {n : Nat} {σ : zS}
/-- the bits of z / 256 -/
def zbits (z : Int) (b P Bi : Int) : Int := (b - 8 + Bi) * 2 ^ P.toNat + (max z (-z) * 2 ^ (P - b).toNat - 1 * 2 ^ P.toNat)
/-- so many characters stand in the number u -/
def zsg (u : Int) (k : Nat) : Prop := (0 < k ∧ k ≤ 8) ∧ (∀ i : Nat, i < k → 33 ≤ u / 256 ^ i % 256 ∧ u / 256 ^ i % 256 ≤ 126) ∧ u / 256 ^ k = 0
def zsgn (u : Int) (k : Nat) : Prop := zsg u k ∨ (k = 0 ∧ ∀ j : Nat, ¬ zsg u j)
theorem zandl_255 (a : Int) : zandl a 255 = a % 256 := by
  unfold zandl
  have h1 : (zJ a &&& zJ 255) = zJ (a % 256) := by
    apply Int64.toBitVec_inj.mp
    apply BitVec.eq_of_toNat_eq
    rw [Int64.toBitVec_and, BitVec.toNat_and, zJ_bv, zJ_bv, zJ_bv, BitVec.toNat_ofInt, BitVec.toNat_ofInt, BitVec.toNat_ofInt]
    have e1 : ((255 : Int) % ((2 ^ 64 : Nat) : Int)).toNat = 2 ^ 8 - 1 := by decide
    rw [e1, Nat.and_two_pow_sub_one_eq_mod]
    have e2 : ((2 ^ 64 : Nat) : Int) = 18446744073709551616 := by decide
    rw [e2]
    omega
  rw [h1, zJ_t (by omega)]
end
