/-! the law's own small methods -/
theorem x_pop {y : MethodName} {cc : ByteArray} {ml : Nat} {ret : Option FieldType} {h mc ms n0 : Nat} {Ret : zRT} {K : zKT} (C : zX y cc ml ret h mc ms n0 Ret K) {pc : Nat} {Lo : List (Option zV)} {st : List zV} {n : Nat} {σ : zS} {w : Nat} {v : zV} (d : decode cc pc = .ok (.pop, 1)) (hw : zwide v = false) (k : K (pc + 1) Lo st n σ w) : K pc Lo (v :: st) n σ w := by
  obtain ⟨p, l, e, R, s, m, args, below, meth, c, Q, g, ⟨hx, hb, hml, hown, hts, hK, hin⟩, hR, hsz, rfl, hrt⟩ := C
  intro ls H locs hn hl hP hS
  exact lv_pop hx hb d ((lv_cat _).resolve_right (fun q => by rw [(zcat_wide g v).mp q] at hw; cases hw)) (k ls H locs hn hl hP hS)
/-- a number and what the machine keeps of it -/
theorem x_rp {y : MethodName} {cc : ByteArray} {ml : Nat} {ret : Option FieldType} {h mc ms n0 : Nat} {Ret : zRT} {K : zKT} (C : zX y cc ml ret h mc ms n0 Ret K) {pc : Nat} {Lo : List (Option zV)} {st : List zV} {n : Nat} {σ : zS} {w : Nat} {a b : Int} (hab : zI a = zI b) (k : K pc Lo (zi b :: st) n σ w) : K pc Lo (zi a :: st) n σ w := by
  obtain ⟨p, l, e, R, s, m, args, below, meth, c, Q, g, ⟨hx, hb, hml, hown, hts, hK, hin⟩, hR, hsz, rfl, hrt⟩ := C
  intro ls H locs hn hl hP hS
  have k := k ls H locs hn hl hP hS
  rw [List.map_cons] at k ⊢
  rw [show zv g (zi a) = zv g (zi b) from congrArg Value.int hab]
  exact k
theorem zand_31 (a : Int) : zand a 2147483647 = a % 2147483648 := by
  unfold zand
  have h1 : (zI a &&& zI 2147483647) = zI (a % 2147483648) := by
    apply Int32.toBitVec_inj.mp
    apply BitVec.eq_of_toNat_eq
    rw [Int32.toBitVec_and, BitVec.toNat_and, zI_bv, zI_bv, zI_bv, BitVec.toNat_ofInt, BitVec.toNat_ofInt, BitVec.toNat_ofInt]
    have e1 : ((2147483647 : Int) % ((2 ^ 32 : Nat) : Int)).toNat = 2 ^ 31 - 1 := by decide
    rw [e1, Nat.and_two_pow_sub_one_eq_mod]
    have e2 : ((2 ^ 32 : Nat) : Int) = 4294967296 := by decide
    rw [e2]
    omega
  rw [h1, zI_t (by omega)]
theorem zand_15 (a : Int) : zand a 15 = a % 16 := by
  unfold zand
  have h1 : (zI a &&& zI 15) = zI (a % 16) := by
    apply Int32.toBitVec_inj.mp
    apply BitVec.eq_of_toNat_eq
    rw [Int32.toBitVec_and, BitVec.toNat_and, zI_bv, zI_bv, zI_bv, BitVec.toNat_ofInt, BitVec.toNat_ofInt, BitVec.toNat_ofInt]
    have e1 : ((15 : Int) % ((2 ^ 32 : Nat) : Int)).toNat = 2 ^ 4 - 1 := by decide
    rw [e1, Nat.and_two_pow_sub_one_eq_mod]
    have e2 : ((2 ^ 32 : Nat) : Int) = 4294967296 := by decide
    rw [e2]
    omega
  rw [h1, zI_t (by omega)]
theorem zand_7 (a : Int) : zand a 7 = a % 8 := by
  unfold zand
  have h1 : (zI a &&& zI 7) = zI (a % 8) := by
    apply Int32.toBitVec_inj.mp
    apply BitVec.eq_of_toNat_eq
    rw [Int32.toBitVec_and, BitVec.toNat_and, zI_bv, zI_bv, zI_bv, BitVec.toNat_ofInt, BitVec.toNat_ofInt, BitVec.toNat_ofInt]
    have e1 : ((7 : Int) % ((2 ^ 32 : Nat) : Int)).toNat = 2 ^ 3 - 1 := by decide
    rw [e1, Nat.and_two_pow_sub_one_eq_mod]
    have e2 : ((2 ^ 32 : Nat) : Int) = 4294967296 := by decide
    rw [e2]
    omega
  rw [h1, zI_t (by omega)]
theorem zand_1 (a : Int) : zand a 1 = a % 2 := by
  unfold zand
  have h1 : (zI a &&& zI 1) = zI (a % 2) := by
    apply Int32.toBitVec_inj.mp
    apply BitVec.eq_of_toNat_eq
    rw [Int32.toBitVec_and, BitVec.toNat_and, zI_bv, zI_bv, zI_bv, BitVec.toNat_ofInt, BitVec.toNat_ofInt, BitVec.toNat_ofInt]
    have e1 : ((1 : Int) % ((2 ^ 32 : Nat) : Int)).toNat = 2 ^ 1 - 1 := by decide
    rw [e1, Nat.and_two_pow_sub_one_eq_mod]
    have e2 : ((2 ^ 32 : Nat) : Int) = 4294967296 := by decide
    rw [e2]
    omega
  rw [h1, zI_t (by omega)]
def zwr (x : Int) : Int := (zI x).toInt
theorem zwr_in (x : Int) : -2147483648 ≤ zwr x ∧ zwr x < 2147483648 := ⟨Int32.le_toInt _, Int32.toInt_lt _⟩
def zlow (v k : Int) : Int := v % 2147483648 % k
theorem zlow_in (v : Int) {k : Int} (hk : 0 < k) : 0 ≤ zlow v k ∧ zlow v k < k := ⟨Int.emod_nonneg _ (by omega), Int.emod_lt_of_pos _ hk⟩
section
variable {n : Nat} {σ : zS}
theorem ctL_low (v k : Int) (hk : 0 < k ∧ k < 2147483648) : zCt 1 0 0 yL_low cL_low 2 (some .int) [zi v, zi k] n σ (some (zi (zlow v k))) n σ := by
  refine zCt.of (by decide) rfl (Nat.le_of_ble_eq_true rfl) (fun K C => ?_)
  refine x_iload_n C dL_low_0 rfl ?_
  refine x_ldc (v := 2147483647) C dL_low_1 kcL_7 (by decide) ?_
  refine x_iand C dL_low_3 ?_
  rw [zand_31]
  refine x_iload_n C dL_low_4 rfl ?_
  refine x_irem C dL_low_5 (by omega) ?_
  exact x_iret (st := []) C dL_low_6 rfl ⟨congrArg (fun z => some (zi z)) (by first | rfl | omega), rfl, rfl, rfl⟩
end
/-- what the law hears of a matrix -/
def zh1 (e : Int → Int) : Nat → Int := zfo (fun h k => 31 * h + (e k + 1000000)) 3
def zh2 (e t : Int → Int) (h0 : Int) : Nat → Int := zfo (fun h w => 31 * h + zwr (zof6 e t w)) h0
def zTold (e t : Int → Int) : Int := zh2 e t (zh1 e 256) 11
def zAllS (S : Int → Int) : Int := 31 * (31 * zTold (zsE S 0) (zsT S 0) + zTold (zsE S 1) (zsT S 1)) + zwr (zsm (fun m => zrmF (zsT S m) 0 0 0) 4) + 7 * zwr (S 1364)
section
variable {n : Nat} {σ : zS} {X : zSV} {o l : Int} {Hs : Int → zSV} {Sl : Int → zSV × Bool} {f : Int → Int} {L : Int}
theorem ctL_told (R : RepC σ n X o l Hs Sl f L) {m : Int} (hm : 0 ≤ m ∧ m < 4) {e2 t2 : Int → Int} (hM : zMm (X.1 m) (X.2.1 m) e2 t2) : zCt 10 0 0 yL_told cL_told 5 (some .long) [zr 1, zi m] n σ (some (zl (zTold e2 t2))) n σ := by
  have hB0 := R.1.1
  have hn := R.1.2
  have hbd := R.2.1.2.1 m
  have hvl : zVl (X.2.1 m) := hM.2.1.symm.Vl hM.2.2.1
  have hbe : zBe e2 := fun j j1 j2 => by
    rw [← hM.1 j j1 j2]
    exact hbd j
  obtain ⟨b, hbb⟩ : ∃ b : Bool, (b = true ↔ ∀ i j : Nat, j < i → i < 16 → X.1 m ((i : Int) * 16 + j) = X.1 m ((j : Int) * 16 + i)) := by
    by_cases q : ∀ i j : Nat, j < i → i < 16 → X.1 m ((i : Int) * 16 + j) = X.1 m ((j : Int) * 16 + i)
    · exact ⟨true, iff_of_true rfl q⟩
    · exact ⟨false, iff_of_false (fun z => by cases z) q⟩
  unfold zTold
  obtain ⟨H0, hH0⟩ : ∃ H0, zh1 e2 256 = H0 := ⟨_, rfl⟩
  rw [hH0]
  refine zCt.of (by decide) rfl (Nat.le_of_ble_eq_true rfl) (fun K C => ?_)
  have loop2 : ∀ k : Nat, k ≤ 11 → K 47 [some (zr 1), some (zi m), some (zl (zh2 e2 t2 H0 k)), none, some (zi (k : Int))] [] n σ 0 := by
    refine zloop _ 11 (fun k hk ih => ?_)
    refine x_iload C dL_told_47 rfl ?_
    refine x_bipush C dL_told_49 (by decide) ?_
    refine x_icmp_ge (tgt := 75) C dL_told_51 (by decide) (by omega) (fun c51 => ?_) (fun c51 => ?_)
    · refine x_lload_n C dL_told_75 rfl ?_
      exact x_lret (st := []) C dL_told_76 rfl ⟨congrArg (fun z => some (zl z)) (by rw [show k = 11 by omega]), rfl, rfl, rfl⟩
    · refine x_ldc2 (v := 31) C dL_told_54 kcL_10 (by decide) ?_
      refine x_lload_n C dL_told_57 rfl ?_
      refine x_lmul C dL_told_58 ?_
      refine x_aload_n C dL_told_59 rfl ?_
      refine x_iload_n C dL_told_60 rfl ?_
      refine x_iload C dL_told_61 rfl ?_
      refine x_callV C dL_told_63 (ctX5_of R m k hm (by omega) hbb) okX5_of lkL_18 ⟨⟨hB0, rfl, rfl⟩, (by omega)⟩ ⟨by decide, rfl, rfl, Nat.le_of_ble_eq_true rfl⟩ rfl (Or.inl ⟨rfl, rfl⟩) ?_
      rw [zof_e hM.1 hM.2.1 hvl hbe hbb]
      refine x_rp C (zI_to _).symm ?_
      refine x_i2l C dL_told_66 (zwr_in _) ?_
      refine x_ladd C dL_told_67 ?_
      refine x_lstore_n C dL_told_68 (by decide) ?_
      refine x_iinc C dL_told_69 rfl (by decide) ?_
      refine x_goto (tgt := 47) C dL_told_72 (by decide) ?_
      exact ih (by omega)
  have loop1 : ∀ k : Nat, k ≤ 256 → K 7 [some (zr 1), some (zi m), some (zl (zh1 e2 k)), none, some (zi (k : Int))] [] n σ 0 := by
    refine zloop _ 256 (fun k hk ih => ?_)
    have he : k < 256 → X.1 m ((k : Int) / 16 * 16 + (k : Int) % 16) = e2 k := fun q => by
      rw [show (k : Int) / 16 * 16 + (k : Int) % 16 = k by omega]
      exact hM.1 k (by omega) (by omega)
    refine x_iload C dL_told_7 rfl ?_
    refine x_sipush C dL_told_9 (by decide) ?_
    refine x_icmp_ge (tgt := 44) C dL_told_12 (by decide) (by omega) (fun c12 => ?_) (fun c12 => ?_)
    · refine x_iconst C dL_told_44 ?_
      refine x_istore C dL_told_45 (by decide) ?_
      obtain rfl : k = 256 := by omega
      rw [hH0]
      exact loop2 0 (by omega)
    · refine x_ldc2 (v := 31) C dL_told_15 kcL_10 (by decide) ?_
      refine x_lload_n C dL_told_18 rfl ?_
      refine x_lmul C dL_told_19 ?_
      refine x_aload_n C dL_told_20 rfl ?_
      refine x_iload_n C dL_told_21 rfl ?_
      refine x_iload C dL_told_22 rfl ?_
      refine x_bipush C dL_told_24 (by decide) ?_
      refine x_idiv C dL_told_26 (by omega) ?_
      refine x_iload C dL_told_27 rfl ?_
      refine x_bipush C dL_told_29 (by decide) ?_
      refine x_irem C dL_told_31 (by omega) ?_
      refine x_callV C dL_told_32 (ctX5_at R m ((k : Int) / 16) ((k : Int) % 16) hm (by omega) (by omega)) okX5_at lkL_12 ⟨⟨hB0, rfl, rfl⟩, (by omega)⟩ ⟨by decide, rfl, rfl, Nat.le_of_ble_eq_true rfl⟩ rfl (Or.inl ⟨rfl, rfl⟩) ?_
      rw [he (by omega)]
      refine x_i2l C dL_told_35 (by have := hbe k (by omega) (by omega); omega) ?_
      refine x_ladd C dL_told_36 ?_
      refine x_lstore_n C dL_told_37 (by decide) ?_
      refine x_iinc C dL_told_38 rfl (by decide) ?_
      refine x_goto (tgt := 7) C dL_told_41 (by decide) ?_
      exact ih (by omega)
  refine x_ldc2 (v := 3) C dL_told_0 kcL_8 (by decide) ?_
  refine x_lstore_n C dL_told_3 (by decide) ?_
  refine x_iconst C dL_told_4 ?_
  refine x_istore C dL_told_5 (by decide) ?_
  exact loop1 0 (by omega)
theorem ctL_all (R : RepC σ n X o l Hs Sl f L) {S : Int → Int} (hS : zRl X S) : zCt 11 0 0 yL_all cL_all 1 (some .long) [zr 1] n σ (some (zl (zAllS S))) n σ := by
  have hB0 := R.1.1
  have hn := R.1.2
  have hroom : zcoq X L l 0 = zsm (fun m => zrmF (zsT S m) 0 0 0) 4 := Eq.trans (b := zsm (fun m => zroom (X.2.1 m) 3 0 0) 4) (if_pos rfl) (zsm_cg 4 (fun j hj => by
    have h := hS.1 j ⟨by omega, by omega⟩
    exact (zroom_F (h.2.1.symm.Vl h.2.2.1)).trans h.2.1.room))
  have hch : zcoq X L l 2 = S 1364 := Eq.trans (b := X.2.2) (by unfold zcoq; rw [if_neg (by decide), if_neg (by decide), if_pos rfl]) hS.2.1
  refine zCt.of (by decide) rfl (Nat.le_of_ble_eq_true rfl) (fun K C => ?_)
  refine x_ldc2 (v := 31) C dL_all_0 kcL_10 (by decide) ?_
  refine x_ldc2 (v := 31) C dL_all_3 kcL_10 (by decide) ?_
  refine x_aload_n C dL_all_6 rfl ?_
  refine x_iconst C dL_all_7 ?_
  refine x_callS C dL_all_8 (ctL_told R (by decide) (hS.1 0 (by decide))) okL_told lkL_22 ⟨by decide, rfl, rfl, Nat.le_of_ble_eq_true rfl⟩ rfl (Or.inl ⟨rfl, rfl⟩) ?_
  refine x_lmul C dL_all_11 ?_
  refine x_aload_n C dL_all_12 rfl ?_
  refine x_iconst C dL_all_13 ?_
  refine x_callS C dL_all_14 (ctL_told R (by decide) (hS.1 1 (by decide))) okL_told lkL_22 ⟨by decide, rfl, rfl, Nat.le_of_ble_eq_true rfl⟩ rfl (Or.inl ⟨rfl, rfl⟩) ?_
  refine x_ladd C dL_all_17 ?_
  refine x_lmul C dL_all_18 ?_
  refine x_aload_n C dL_all_19 rfl ?_
  refine x_iconst C dL_all_20 ?_
  refine x_callV C dL_all_21 (ctX5_count R 0 (by decide)) okX5_count lkL_28 ⟨⟨hB0, rfl, rfl⟩, (by omega)⟩ ⟨by decide, rfl, rfl, Nat.le_of_ble_eq_true rfl⟩ rfl (Or.inl ⟨rfl, rfl⟩) ?_
  rw [hroom]
  refine x_rp C (zI_to _).symm ?_
  refine x_i2l C dL_all_24 (zwr_in _) ?_
  refine x_ladd C dL_all_25 ?_
  refine x_ldc2 (v := 7) C dL_all_26 kcL_32 (by decide) ?_
  refine x_aload_n C dL_all_29 rfl ?_
  refine x_iconst C dL_all_30 ?_
  refine x_callV C dL_all_31 (ctX5_count R 2 (by decide)) okX5_count lkL_28 ⟨⟨hB0, rfl, rfl⟩, (by omega)⟩ ⟨by decide, rfl, rfl, Nat.le_of_ble_eq_true rfl⟩ rfl (Or.inl ⟨rfl, rfl⟩) ?_
  rw [hch]
  refine x_rp C (zI_to _).symm ?_
  refine x_i2l C dL_all_34 (zwr_in _) ?_
  refine x_lmul C dL_all_35 ?_
  refine x_ladd C dL_all_36 ?_
  exact x_lret (st := []) C dL_all_37 rfl ⟨congrArg (fun z => some (zl z)) (by first | rfl | omega), rfl, rfl, rfl⟩
end
