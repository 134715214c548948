theorem z2p {a b : Nat} (h : a ≤ b) : (2 : Int) ^ a ≤ 2 ^ b := by
  have h1 : (2 : Nat) ^ a ≤ 2 ^ b := Nat.pow_le_pow_right (by decide) h
  have h2 : (((2 : Nat) ^ a : Nat) : Int) ≤ (((2 : Nat) ^ b : Nat) : Int) := Int.ofNat_le.mpr h1
  rwa [Int.natCast_pow, Int.natCast_pow] at h2
section
variable {n : Nat} {σ : zS}
theorem ctX5_highestBit {x : Int} {b : Nat} (hb : b ≤ 62) (hx : 2 ^ b ≤ x ∧ x < 2 ^ (b + 1)) : zCt 1 0 0 yX5_highestBit cX5_highestBit 3 (some .int) [zl x] n σ (some (zi (b : Int))) n σ := by
  refine zCt.of (by decide) rfl (Nat.le_of_ble_eq_true rfl) (fun K C => ?_)
  have hx63 : x < 9223372036854775808 := by
    have h1 : (2 : Int) ^ (b + 1) ≤ 2 ^ 63 := z2p (by omega)
    have h2 : (2 : Int) ^ 63 = 9223372036854775808 := by decide
    omega
  have hx0 : 0 < x := by
    have h1 : (0 : Int) < 2 ^ b := Int.pow_pos (by decide)
    omega
  have loop : ∀ j : Nat, j ≤ b → K 2 [some (zl x), none, some (zi (j : Int))] [] n σ 0 := by
    refine zloop _ b (fun j hj ih => ?_)
    have hsh : (x / 2 ^ (((j : Int) + 1).toNat)) = x / 2 ^ (j + 1) := rfl
    have hp : (0 : Int) < 2 ^ (j + 1) := Int.pow_pos (by decide)
    have hle : x / 2 ^ (j + 1) ≤ x := Int.ediv_le_self _ (by omega)
    have hge : 0 ≤ x / 2 ^ (j + 1) := Int.ediv_nonneg (by omega) (by omega)
    have hlt : j < b → 0 < x / 2 ^ (j + 1) := fun q => by
      have h1 : (2 : Int) ^ (j + 1) ≤ 2 ^ b := z2p (by omega)
      exact Int.le_ediv_of_mul_le hp (by omega)
    have heq : j = b → x / 2 ^ (j + 1) = 0 := fun q => by
      subst q
      exact Int.ediv_eq_zero_of_lt (by omega) hx.2
    generalize x / 2 ^ (j + 1) = z at hsh hle hge hlt heq
    refine x_iload_n C dX5_highestBit_2 rfl ?_
    refine x_bipush C dX5_highestBit_3 (by decide) ?_
    refine x_icmp_ge (tgt := 24) C dX5_highestBit_5 (by decide) (by omega) (fun c5 => ?_) (fun c5 => ?_)
    · refine x_iload_n C dX5_highestBit_24 rfl ?_
      exact x_iret (st := []) C dX5_highestBit_25 rfl ⟨congrArg (fun z => some (zi z)) (by first | rfl | omega), rfl, rfl, rfl⟩
    · refine x_lload_n C dX5_highestBit_8 rfl ?_
      refine x_iload_n C dX5_highestBit_9 rfl ?_
      refine x_iconst C dX5_highestBit_10 ?_
      refine x_iadd C dX5_highestBit_11 ?_
      refine x_lshr C dX5_highestBit_12 (by omega) ?_
      refine x_lconst C dX5_highestBit_13 ?_
      rw [hsh]
      refine x_lcmp C dX5_highestBit_14 (by omega) (fun r14 q14 => ?_)
      refine x_if_le (tgt := 24) C dX5_highestBit_15 (by decide) (by omega) (fun c15 => ?_) (fun c15 => ?_)
      · refine x_iload_n C dX5_highestBit_24 rfl ?_
        exact x_iret (st := []) C dX5_highestBit_25 rfl ⟨congrArg (fun z => some (zi z)) (by first | rfl | omega), rfl, rfl, rfl⟩
      · refine x_iinc C dX5_highestBit_18 rfl (by decide) ?_
        refine x_goto (tgt := 2) C dX5_highestBit_21 (by decide) ?_
        exact ih (by omega)
  refine x_iconst C dX5_highestBit_0 ?_
  refine x_istore_n C dX5_highestBit_1 (by decide) ?_
  exact loop 0 (by omega)
/-- the bits of z / 256 -/
def zbits (z : Int) (b P Bi : Int) : Int := (b - 8 + Bi) * 2 ^ P.toNat + (max z (-z) * 2 ^ (P - b).toNat - 1 * 2 ^ P.toNat)
theorem ctX5_bitsOfPart0 (P Bi : Int) : zCt 2 0 0 yX5_bitsOfPart cX5_bitsOfPart 12 (some .long) [zi 0, zi P, zi Bi] n σ (some (zl 0)) n σ := by
  refine zCt.of (by decide) rfl (Nat.le_of_ble_eq_true rfl) (fun K C => ?_)
  refine x_iload_n C dX5_bitsOfPart_0 rfl ?_
  refine x_if_ne (tgt := 6) C dX5_bitsOfPart_1 (by decide) (by omega) (fun c1 => ?_) (fun c1 => ?_)
  · exact absurd rfl c1
  · refine x_lconst C dX5_bitsOfPart_4 ?_
    exact x_lret (st := []) C dX5_bitsOfPart_5 rfl ⟨congrArg (fun z => some (zl z)) (by first | rfl | omega), rfl, rfl, rfl⟩
theorem ctX5_bitsOfPart {z : Int} {b : Nat} {P Bi : Int} (hz : -1000000000 ≤ z ∧ z ≤ 1000000000) (hz0 : z ≠ 0) (hb : b ≤ 62) (hx : 2 ^ b ≤ max z (-z) ∧ max z (-z) < 2 ^ (b + 1)) (hP : b ≤ P ∧ P ≤ 52) (hB : 0 ≤ Bi ∧ Bi ≤ 2000) : zCt 2 0 0 yX5_bitsOfPart cX5_bitsOfPart 12 (some .long) [zi z, zi P, zi Bi] n σ (some (zl (if 0 ≤ z then zbits z b P Bi else zorl (zbits z b P Bi) (-9223372036854775808)))) n σ := by
  refine zCt.of (by decide) rfl (Nat.le_of_ble_eq_true rfl) (fun K C => ?_)
  refine x_iload_n C dX5_bitsOfPart_0 rfl ?_
  refine x_if_ne (tgt := 6) C dX5_bitsOfPart_1 (by decide) (by omega) (fun c1 => ?_) (fun c1 => ?_)
  · refine x_iload_n C dX5_bitsOfPart_6 rfl ?_
    refine x_i2l C dX5_bitsOfPart_7 (by omega) ?_
    refine x_mabsl C dX5_bitsOfPart_8 lmX5_210 (by decide) (Nat.le_of_ble_eq_true rfl) (by omega) ?_
    refine x_lstore_n C dX5_bitsOfPart_11 (by decide) ?_
    refine x_lload_n C dX5_bitsOfPart_12 rfl ?_
    refine x_callS C dX5_bitsOfPart_13 (ctX5_highestBit (x := max z (-z)) hb hx) okX5_highestBit lkX5_216 ⟨by decide, rfl, rfl, Nat.le_of_ble_eq_true rfl⟩ rfl (Or.inl ⟨rfl, rfl⟩) ?_
    refine x_istore C dX5_bitsOfPart_16 (by decide) ?_
    refine x_iload C dX5_bitsOfPart_18 rfl ?_
    refine x_bipush C dX5_bitsOfPart_20 (by decide) ?_
    refine x_isub C dX5_bitsOfPart_22 ?_
    refine x_iload_n C dX5_bitsOfPart_23 rfl ?_
    refine x_iadd C dX5_bitsOfPart_24 ?_
    refine x_i2l C dX5_bitsOfPart_25 (by omega) ?_
    refine x_lstore C dX5_bitsOfPart_26 (by decide) ?_
    refine x_lload_n C dX5_bitsOfPart_28 rfl ?_
    refine x_iload_n C dX5_bitsOfPart_29 rfl ?_
    refine x_iload C dX5_bitsOfPart_30 rfl ?_
    refine x_isub C dX5_bitsOfPart_32 ?_
    refine x_lshl C dX5_bitsOfPart_33 (by omega) ?_
    refine x_lconst C dX5_bitsOfPart_34 ?_
    refine x_iload_n C dX5_bitsOfPart_35 rfl ?_
    refine x_lshl C dX5_bitsOfPart_36 (by omega) ?_
    refine x_lsub C dX5_bitsOfPart_37 ?_
    refine x_lstore C dX5_bitsOfPart_38 (by decide) ?_
    refine x_lload C dX5_bitsOfPart_40 rfl ?_
    refine x_iload_n C dX5_bitsOfPart_42 rfl ?_
    refine x_lshl C dX5_bitsOfPart_43 (by omega) ?_
    refine x_lload C dX5_bitsOfPart_44 rfl ?_
    refine x_ladd C dX5_bitsOfPart_46 ?_
    refine x_lstore C dX5_bitsOfPart_47 (by decide) ?_
    refine x_iload_n C dX5_bitsOfPart_49 rfl ?_
    refine x_if_ge (tgt := 62) C dX5_bitsOfPart_50 (by decide) (by omega) (fun c50 => ?_) (fun c50 => ?_)
    · refine x_lload C dX5_bitsOfPart_62 rfl ?_
      exact x_lret (st := []) C dX5_bitsOfPart_64 rfl ⟨congrArg (fun z => some (zl z)) (by first | exact (if_pos c50).symm | exact (if_neg (by omega)).symm), rfl, rfl, rfl⟩
    · refine x_lload C dX5_bitsOfPart_53 rfl ?_
      refine x_ldc2 (v := -9223372036854775808) C dX5_bitsOfPart_55 kcX5_219 (by decide) ?_
      refine x_lor C dX5_bitsOfPart_58 ?_
      refine x_goto (tgt := 64) C dX5_bitsOfPart_59 (by decide) ?_
      exact x_lret (st := []) C dX5_bitsOfPart_64 rfl ⟨congrArg (fun z => some (zl z)) (by first | exact (if_pos c50).symm | exact (if_neg (by omega)).symm), rfl, rfl, rfl⟩
  · exact absurd c1 hz0
/-- so many characters stand in the number u -/
def zsg (u : Int) (k : Nat) : Prop := (0 < k ∧ k ≤ 8) ∧ (∀ i : Nat, i < k → 33 ≤ u / 256 ^ i % 256 ∧ u / 256 ^ i % 256 ≤ 126) ∧ u / 256 ^ k = 0
def zsgn (u : Int) (k : Nat) : Prop := zsg u k ∨ (k = 0 ∧ ∀ j : Nat, ¬ zsg u j)
theorem zandl_255 (a : Int) : zandl a 255 = a % 256 := by
  unfold zandl
  have h1 : (zJ a &&& zJ 255) = zJ (a % 256) := by
    apply Int64.toBitVec_inj.mp
    apply BitVec.eq_of_toNat_eq
    rw [Int64.toBitVec_and, BitVec.toNat_and, zJ_bv, zJ_bv, zJ_bv, BitVec.toNat_ofInt, BitVec.toNat_ofInt, BitVec.toNat_ofInt]
    have e1 : ((255 : Int) % ((2 ^ 64 : Nat) : Int)).toNat = 2 ^ 8 - 1 := by decide
    rw [e1, Nat.and_two_pow_sub_one_eq_mod]
    have e2 : ((2 ^ 64 : Nat) : Int) = 18446744073709551616 := by decide
    rw [e2]
    omega
  rw [h1, zJ_t (by omega)]
end
