theorem zfd64 {z v : Int} (hz : -2147483648 < z ∧ z < 2147483648) (hv : zbv z 52 1023 v) : ∃ (s : Bool) (c : Nat) (q : Int), FP.Core.decode FP.Core.b64 (FP.ddiv (FP.i2d (zI z)) 4643211215818981376).toNat = .fin s c q ∧ vf_n64 (FP.ddiv (FP.i2d (zI z)) 4643211215818981376) ∧ ((FP.ddiv (FP.i2d (zI z)) 4643211215818981376).toInt64).toInt = v := by
  rcases hv with ⟨rfl, rfl⟩ | ⟨hz0, b, hb, hv⟩
  · have e : FP.ddiv (FP.i2d (zI 0)) 4643211215818981376 = 0 := by decide +kernel
    rw [e]
    refine ⟨false, 0, -1074, by decide +kernel, ?_, by decide +kernel⟩
    unfold vf_n64
    decide +kernel
  · have hna : (z.natAbs : Int) = max z (-z) := by omega
    have hb2 : 2 ^ b ≤ z.natAbs ∧ z.natAbs < 2 ^ (b + 1) := by
      have c1 : ((2 ^ b : Nat) : Int) = 2 ^ b := by push_cast; rfl
      have c2 : ((2 ^ (b + 1) : Nat) : Int) = 2 ^ (b + 1) := by push_cast; rfl
      rw [← c1, ← c2, ← hna] at hb
      omega
    have hb30 : b ≤ 30 := by
      by_cases q : b ≤ 30
      · exact q
      · have h1 : 2 ^ 31 ≤ 2 ^ b := Nat.pow_le_pow_right (by decide) (by omega)
        have h2 : (2 : Nat) ^ 31 = 2147483648 := by decide
        omega
    obtain ⟨g1, g2, g3⟩ := zdiv64 (z := z) (b := b) (by omega) hb2
    have hX := zpw z.natAbs b 52 (by omega) hb2
    have hs : (decide (z < 0)).toNat ≤ 1 := by cases decide (z < 0) <;> decide
    have eI : (zI z).toInt = z := zI_b z (by omega)
    have eA : (FP.i2d (zI z)).toNat = FP.Core.fromInt FP.Core.b64 z := by
      show (UInt64.ofNat (FP.Core.fromInt FP.Core.b64 (zI z).toInt)).toNat = _
      rw [eI, UInt64.toNat_ofNat', Nat.mod_eq_of_lt g3]
    have eX : ((z.natAbs * 2 ^ (52 - b) : Nat) : Int) = max z (-z) * 2 ^ (52 - (b : Int)).toNat := by
      rw [show (52 - (b : Int)).toNat = 52 - b by omega, Int.natCast_mul, hna]
      push_cast
      rfl
    generalize hXX : z.natAbs * 2 ^ (52 - b) = X at *
    have eB : FP.ddiv (FP.i2d (zI z)) 4643211215818981376 = UInt64.ofNat ((decide (z < 0)).toNat * 9223372036854775808 + (b + 1015) * 4503599627370496 + (X - 4503599627370496)) := by
      show UInt64.ofNat (FP.Core.div FP.Core.b64 (FP.i2d (zI z)).toNat (4643211215818981376 : UInt64).toNat) = _
      rw [eA, show (4643211215818981376 : UInt64).toNat = 4643211215818981376 from rfl, g1]
    have eZ : zbits z b 52 1023 = ((b + 1015) * 4503599627370496 + (X - 4503599627370496) : Nat) := by
      unfold zbits
      rw [← eX, show (2 : Int) ^ (52 : Int).toNat = 4503599627370496 by decide]
      omega
    rw [eZ] at hv
    have hW : (b + 1015) * 4503599627370496 + (X - 4503599627370496) < 9218868437227405312 := by omega
    rw [eB]
    rw [Nat.add_assoc] at g2 ⊢
    obtain ⟨W, hWW⟩ : ∃ W, W = (b + 1015) * 4503599627370496 + (X - 4503599627370496) := ⟨_, rfl⟩
    rw [← hWW] at hv hW g2 ⊢
    have eT : (UInt64.ofNat ((decide (z < 0)).toNat * 9223372036854775808 + W)).toNat = (decide (z < 0)).toNat * 9223372036854775808 + W := by
      rw [UInt64.toNat_ofNat', Nat.mod_eq_of_lt (by omega)]
    refine ⟨_, _, _, by rw [eT]; exact g2, ?_, ?_⟩
    · unfold vf_n64
      rw [UInt64.le_iff_toNat_le, UInt64.toNat_and, eT, show (9223372036854775807 : UInt64).toNat = 2 ^ 63 - 1 by decide, Nat.and_two_pow_sub_one_eq_mod, show (9218868437227405312 : UInt64).toNat = 9218868437227405312 by decide]
      have : (2 : Nat) ^ 63 = 9223372036854775808 := by decide
      omega
    · by_cases c : 0 ≤ z
      · rw [if_pos c] at hv
        rw [hv, decide_eq_false (by omega)]
        show (BitVec.ofNat 64 (0 * 9223372036854775808 + W)).toInt = _
        rw [BitVec.toInt_ofNat', Int.bmod_eq_of_le (by omega) (by omega)]
        omega
      · rw [if_neg c] at hv
        rw [hv, decide_eq_true (by omega)]
        unfold zorl
        refine congrArg Int64.toInt ?_
        apply Int64.toBitVec.inj
        show BitVec.ofNat 64 (1 * 9223372036854775808 + W) = BitVec.ofInt 64 (W : Int) ||| BitVec.ofInt 64 (-9223372036854775808)
        apply BitVec.eq_of_toNat_eq
        have h3 : (BitVec.ofInt 64 (-9223372036854775808)).toNat = 2 ^ 63 * 1 := by decide
        have h4 : (BitVec.ofInt 64 (W : Int)).toNat = W := by
          rw [BitVec.toNat_ofInt]
          omega
        rw [BitVec.toNat_or, h3, h4, Nat.or_comm, ← Nat.two_pow_add_eq_or_of_lt (show W < 2 ^ 63 by omega), BitVec.toNat_ofNat, Nat.mod_eq_of_lt (by omega)]
theorem zfd32 {z v : Int} (hz : 0 ≤ z ∧ z < 16777216) (hv : zbv z 23 127 v) : ∃ (s : Bool) (c : Nat) (q : Int), FP.Core.decode FP.Core.b32 (FP.fdiv (FP.i2f (zI z)) 1132462080).toNat = .fin s c q ∧ vf_n32 (FP.fdiv (FP.i2f (zI z)) 1132462080) ∧ ((FP.fdiv (FP.i2f (zI z)) 1132462080).toInt32).toInt = v := by
  rcases hv with ⟨rfl, rfl⟩ | ⟨hz0, b, hb, hv⟩
  · have e : FP.fdiv (FP.i2f (zI 0)) 1132462080 = 0 := by decide +kernel
    rw [e]
    refine ⟨false, 0, -149, by decide +kernel, ?_, by decide +kernel⟩
    unfold vf_n32
    decide +kernel
  · have hna : (z.natAbs : Int) = max z (-z) := by omega
    have hb2 : 2 ^ b ≤ z.natAbs ∧ z.natAbs < 2 ^ (b + 1) := by
      have c1 : ((2 ^ b : Nat) : Int) = 2 ^ b := by push_cast; rfl
      have c2 : ((2 ^ (b + 1) : Nat) : Int) = 2 ^ (b + 1) := by push_cast; rfl
      rw [← c1, ← c2, ← hna] at hb
      omega
    have hb30 : b ≤ 23 := by
      by_cases q : b ≤ 23
      · exact q
      · have h1 : 2 ^ 24 ≤ 2 ^ b := Nat.pow_le_pow_right (by decide) (by omega)
        have h2 : (2 : Nat) ^ 24 = 16777216 := by decide
        omega
    obtain ⟨g1, g2, g3⟩ := zdiv32 (z := z) (b := b) (by omega) hb2
    have hX := zpw z.natAbs b 23 (by omega) hb2
    have hs : (decide (z < 0)).toNat ≤ 1 := by cases decide (z < 0) <;> decide
    have eI : (zI z).toInt = z := zI_b z (by omega)
    have eA : (FP.i2f (zI z)).toNat = FP.Core.fromInt FP.Core.b32 z := by
      show (UInt32.ofNat (FP.Core.fromInt FP.Core.b32 (zI z).toInt)).toNat = _
      rw [eI, UInt32.toNat_ofNat', Nat.mod_eq_of_lt g3]
    have eX : ((z.natAbs * 2 ^ (23 - b) : Nat) : Int) = max z (-z) * 2 ^ (23 - (b : Int)).toNat := by
      rw [show (23 - (b : Int)).toNat = 23 - b by omega, Int.natCast_mul, hna]
      push_cast
      rfl
    generalize hXX : z.natAbs * 2 ^ (23 - b) = X at *
    have eB : FP.fdiv (FP.i2f (zI z)) 1132462080 = UInt32.ofNat ((decide (z < 0)).toNat * 2147483648 + (b + 119) * 8388608 + (X - 8388608)) := by
      show UInt32.ofNat (FP.Core.div FP.Core.b32 (FP.i2f (zI z)).toNat (1132462080 : UInt32).toNat) = _
      rw [eA, show (1132462080 : UInt32).toNat = 1132462080 from rfl, g1]
    have eZ : zbits z b 23 127 = ((b + 119) * 8388608 + (X - 8388608) : Nat) := by
      unfold zbits
      rw [← eX, show (2 : Int) ^ (23 : Int).toNat = 8388608 by decide]
      omega
    rw [eZ] at hv
    have hW : (b + 119) * 8388608 + (X - 8388608) < 2139095040 := by omega
    rw [eB]
    rw [Nat.add_assoc] at g2 ⊢
    obtain ⟨W, hWW⟩ : ∃ W, W = (b + 119) * 8388608 + (X - 8388608) := ⟨_, rfl⟩
    rw [← hWW] at hv hW g2 ⊢
    have eT : (UInt32.ofNat ((decide (z < 0)).toNat * 2147483648 + W)).toNat = (decide (z < 0)).toNat * 2147483648 + W := by
      rw [UInt32.toNat_ofNat', Nat.mod_eq_of_lt (by omega)]
    refine ⟨_, _, _, by rw [eT]; exact g2, ?_, ?_⟩
    · unfold vf_n32
      rw [UInt32.le_iff_toNat_le, UInt32.toNat_and, eT, show (2147483647 : UInt32).toNat = 2 ^ 31 - 1 by decide, Nat.and_two_pow_sub_one_eq_mod, show (2139095040 : UInt32).toNat = 2139095040 by decide]
      have : (2 : Nat) ^ 31 = 2147483648 := by decide
      omega
    · rw [if_pos hz.1] at hv
      rw [hv, decide_eq_false (by omega)]
      show (BitVec.ofNat 32 (0 * 2147483648 + W)).toInt = _
      rw [BitVec.toInt_ofNat', Int.bmod_eq_of_le (by omega) (by omega)]
      omega
theorem zsmR {g : Int → Int} {M : Int} (hM : 0 ≤ M) : ∀ k : Nat, (∀ j : Int, 0 ≤ j → j < k → -M ≤ g j ∧ g j ≤ M) → -(k * M) ≤ zsm g k ∧ zsm g k ≤ k * M
  | 0, _ => ⟨by show -((0 : Nat) * M : Int) ≤ 0; omega, by show (0 : Int) ≤ ((0 : Nat) : Int) * M; omega⟩
  | k + 1, h => by
    have ih := zsmR hM k (fun j h1 h2 => h j h1 (by omega))
    have h2 := h k (by omega) (by omega)
    have h3 : ((k + 1 : Nat) : Int) * M = k * M + M := by rw [Int.natCast_add, Int.add_mul]; omega
    rw [h3]
    show -(k * M + M) ≤ zsm g k + g k ∧ zsm g k + g k ≤ k * M + M
    omega
section
variable {n : Nat} {σ : zS} {S : Int → Int} {um L p lv br bc : Int} {wl : Bool}
theorem ctX6_meanE (h : isMo σ n S) (m : Int) (hm : -2147483648 ≤ m ∧ m < 2147483648) (hE : ¬ (0 ≤ m ∧ m < 4)) : zCt 13 0 0 yX6_mean cX6_mean 4 (some .long) [zr 145, zi m] n σ (some (zl 0)) n σ := by
  obtain ⟨⟨um, L, p, wl, lv, br, bc, hM⟩, hS0, hn⟩ := id h
  obtain ⟨s, c, q, h1, h2, h3⟩ := zfd64 (z := 0) (v := 0) (by decide) (Or.inl ⟨rfl, rfl⟩)
  refine zCt.of (by decide) rfl (Nat.le_of_ble_eq_true rfl) (fun K C => ?_)
  refine x_aload_n C dX6_mean_0 rfl ?_
  refine x_iconst C dX6_mean_1 ?_
  refine x_putI C dX6_mean_2 lfX6_41 lyX6_0 hM (by omega) (Nat.le_of_ble_eq_true rfl) ?_
  refine x_nm (fun s2 e2 => ?_)
  rw [show s2 = σ from e2.trans (zsu_self hM)]
  clear e2 s2
  refine x_iconst C dX6_mean_5 ?_
  refine x_istore_n C dX6_mean_6 (by decide) ?_
  refine x_iconst C dX6_mean_7 ?_
  refine x_istore_n C dX6_mean_8 (by decide) ?_
  refine x_iload_n C dX6_mean_9 rfl ?_
  refine x_sipush C dX6_mean_10 (by decide) ?_
  refine x_icmp_ge (tgt := 45) C dX6_mean_13 (by decide) (by omega) (fun c13 => ?_) (fun c13 => ?_)
  · exact absurd c13 (by decide)
  · refine x_iload_n C dX6_mean_16 rfl ?_
    refine x_callS C dX6_mean_17 (ctX6_isMatrix _ (by omega)) okX6_isMatrix lkX6_104 ⟨by decide, rfl, rfl, Nat.le_of_ble_eq_true rfl⟩ rfl (Or.inl ⟨rfl, rfl⟩) ?_
    refine x_ifeq_d (tgt := 45) C dX6_mean_20 (by decide) (fun c20 => ?_) (fun c20 => ?_)
    · refine x_iload_n C dX6_mean_45 rfl ?_
      refine x_i2d C dX6_mean_46 ?_
      refine x_ldc2d C dX6_mean_47 kcX6_163 ?_
      refine x_ddiv C dX6_mean_50 h2 ?_
      refine x_callS C dX6_mean_51 (ctJxe99ae_doubleToLongBits_ccdee h1) okJxe99ae_doubleToLongBits_ccdee lkX6_165 ⟨by decide, rfl, rfl, Nat.le_of_ble_eq_true rfl⟩ rfl (Or.inl ⟨rfl, rfl⟩) ?_
      exact x_lret (st := []) C dX6_mean_54 rfl ⟨congrArg (fun z => some (zl z)) h3, rfl, rfl, rfl⟩
    · exact absurd c20 hE
theorem ctX6_mean (h : isMo σ n S) (m : Int) (hm : (0 ≤ m ∧ m < 4)) (he : zBe (zsE S m)) {v : Int} (hv : zbv (zsm (zsE S m) 256) 52 1023 v) : zCt 13 0 0 yX6_mean cX6_mean 4 (some .long) [zr 145, zi m] n σ (some (zl v)) n σ := by
  obtain ⟨⟨um, L, p, wl, lv, br, bc, hM⟩, hS0, hn⟩ := id h
  have hb := zsmR (g := zsE S m) (M := 1000000) (by decide) 256 (fun j h1 h2 => he j h1 h2)
  obtain ⟨s, c, q, h1, h2, h3⟩ := zfd64 (by omega) hv
  refine zCt.of (by decide) rfl (Nat.le_of_ble_eq_true rfl) (fun K C => ?_)
  have loop : ∀ k : Nat, k ≤ 256 → K 9 [some (zr 145), some (zi m), some (zi (zsm (zsE S m) k)), some (zi (k : Int))] [] n σ 0 := by
    refine zloop _ 256 (fun k hk ih => ?_)
    refine x_iload_n C dX6_mean_9 rfl ?_
    refine x_sipush C dX6_mean_10 (by decide) ?_
    refine x_icmp_ge (tgt := 45) C dX6_mean_13 (by decide) (by omega) (fun c13 => ?_) (fun c13 => ?_)
    · rw [show k = 256 by omega]
      refine x_iload_n C dX6_mean_45 rfl ?_
      refine x_i2d C dX6_mean_46 ?_
      refine x_ldc2d C dX6_mean_47 kcX6_163 ?_
      refine x_ddiv C dX6_mean_50 h2 ?_
      refine x_callS C dX6_mean_51 (ctJxe99ae_doubleToLongBits_ccdee h1) okJxe99ae_doubleToLongBits_ccdee lkX6_165 ⟨by decide, rfl, rfl, Nat.le_of_ble_eq_true rfl⟩ rfl (Or.inl ⟨rfl, rfl⟩) ?_
      exact x_lret (st := []) C dX6_mean_54 rfl ⟨congrArg (fun z => some (zl z)) h3, rfl, rfl, rfl⟩
    · refine x_iload_n C dX6_mean_16 rfl ?_
      refine x_callS C dX6_mean_17 (ctX6_isMatrix _ (by omega)) okX6_isMatrix lkX6_104 ⟨by decide, rfl, rfl, Nat.le_of_ble_eq_true rfl⟩ rfl (Or.inl ⟨rfl, rfl⟩) ?_
      refine x_ifeq_d (tgt := 45) C dX6_mean_20 (by decide) (fun c20 => ?_) (fun c20 => ?_)
      · exact absurd hm c20
      · have e3 : (k : Int) / 16 * 16 + (k : Int) % 16 = k := by omega
        refine x_iload_n C dX6_mean_23 rfl ?_
        refine x_aload_n C dX6_mean_24 rfl ?_
        refine x_iload_n C dX6_mean_25 rfl ?_
        refine x_iload_n C dX6_mean_26 rfl ?_
        refine x_bipush C dX6_mean_27 (by decide) ?_
        refine x_idiv C dX6_mean_29 (by omega) ?_
        refine x_iload_n C dX6_mean_30 rfl ?_
        refine x_bipush C dX6_mean_31 (by decide) ?_
        refine x_irem C dX6_mean_33 (by omega) ?_
        refine x_callV C dX6_mean_34 (ctX6_get h m _ _ hm (by omega) (by omega)) okX6_get lkX6_81 ⟨⟨hM, rfl, rfl⟩, (by omega)⟩ ⟨by decide, rfl, rfl, Nat.le_of_ble_eq_true rfl⟩ rfl (Or.inl ⟨rfl, rfl⟩) ?_
        rw [e3]
        refine x_iadd C dX6_mean_37 ?_
        refine x_istore_n C dX6_mean_38 (by decide) ?_
        refine x_iinc C dX6_mean_39 rfl (by decide) ?_
        refine x_goto (tgt := 9) C dX6_mean_42 (by decide) ?_
        exact ih (by omega)
  refine x_aload_n C dX6_mean_0 rfl ?_
  refine x_iconst C dX6_mean_1 ?_
  refine x_putI C dX6_mean_2 lfX6_41 lyX6_0 hM (by omega) (Nat.le_of_ble_eq_true rfl) ?_
  refine x_nm (fun s2 e2 => ?_)
  rw [show s2 = σ from e2.trans (zsu_self hM)]
  clear e2 s2
  refine x_iconst C dX6_mean_5 ?_
  refine x_istore_n C dX6_mean_6 (by decide) ?_
  refine x_iconst C dX6_mean_7 ?_
  refine x_istore_n C dX6_mean_8 (by decide) ?_
  exact loop 0 (by omega)
theorem ctX6_share (h : isMo σ n S) (hS : isSo S) (m : Int) (hm : (0 ≤ m ∧ m < 4)) {v : Int} (hv : zbv (zrmF (zsT S m) 0 0 0) 23 127 v) : zCt 13 0 0 yX6_share cX6_share 2 (some .int) [zr 145, zi m] n σ (some (zi v)) n σ := by
  obtain ⟨⟨um, L, p, wl, lv, br, bc, hM⟩, hS0, hn⟩ := id h
  have hb := zrmF_in (zsT S m) (d := 0) (by decide) 0 0
  obtain ⟨s, c, q, h1, h2, h3⟩ := zfd32 (by omega) hv
  refine zCt.of (by decide) rfl (Nat.le_of_ble_eq_true rfl) (fun K C => ?_)
  refine x_aload_n C dX6_share_0 rfl ?_
  refine x_iconst C dX6_share_1 ?_
  refine x_putI C dX6_share_2 lfX6_41 lyX6_0 hM (by omega) (Nat.le_of_ble_eq_true rfl) ?_
  refine x_nm (fun s2 e2 => ?_)
  rw [show s2 = σ from e2.trans (zsu_self hM)]
  clear e2 s2
  refine x_iload_n C dX6_share_5 rfl ?_
  refine x_callS C dX6_share_6 (ctX6_isMatrix _ (by omega)) okX6_isMatrix lkX6_104 ⟨by decide, rfl, rfl, Nat.le_of_ble_eq_true rfl⟩ rfl (Or.inl ⟨rfl, rfl⟩) ?_
  refine x_ifeq_d (tgt := 27) C dX6_share_9 (by decide) (fun c9 => ?_) (fun c9 => ?_)
  · exfalso; omega
  · refine x_aload_n C dX6_share_12 rfl ?_
    refine x_iload_n C dX6_share_13 rfl ?_
    refine x_callV C dX6_share_14 (ctX6_room h hS m hm) okX6_room lkX6_78 ⟨⟨hM, rfl, rfl⟩, (by omega)⟩ ⟨by decide, rfl, rfl, Nat.le_of_ble_eq_true rfl⟩ rfl (Or.inl ⟨rfl, rfl⟩) ?_
    refine x_i2f C dX6_share_17 ?_
    refine x_ldcf C dX6_share_18 kcX6_171 ?_
    refine x_fdiv C dX6_share_20 h2 ?_
    refine x_callS C dX6_share_21 (ctJxf58ca_floatToIntBits_5c35a h1) okJxf58ca_floatToIntBits_5c35a lkX6_172 ⟨by decide, rfl, rfl, Nat.le_of_ble_eq_true rfl⟩ rfl (Or.inl ⟨rfl, rfl⟩) ?_
    refine x_goto (tgt := 28) C dX6_share_24 (by decide) ?_
    exact x_iret (st := []) C dX6_share_28 rfl ⟨congrArg (fun z => some (zi z)) h3, rfl, rfl, rfl⟩
end
