theorem x_nm {K : zKT} {pc : Nat} {Lo : List (Option zV)} {st : List zV} {n : Nat} {σ : zS} {w : Nat} (k : ∀ s1 : zS, s1 = σ → K pc Lo st n s1 w) : K pc Lo st n σ w := k σ rfl
theorem x_top {K : zKT} {pc : Nat} {Lo : List (Option zV)} {st : List zV} {n : Nat} {σ : zS} {w : Nat} {a : Int} (k : ∀ x : Int, x = a → K pc Lo (zi x :: st) n σ w) : K pc Lo (zi a :: st) n σ w := k a rfl
theorem x_ifeq_d {y : MethodName} {cc : ByteArray} {ml : Nat} {ret : Option FieldType} {h mc ms n0 : Nat} {Ret : zRT} {K : zKT} (C : zX y cc ml ret h mc ms n0 Ret K) {pc : Nat} {Lo : List (Option zV)} {st : List zV} {n : Nat} {σ : zS} {w : Nat} {P : Prop} [Decidable P] {off : Int} {tgt : Nat} (d : decode cc pc = .ok (.ifCond .eq off, 3)) (ht : (pc : Int) + off = (tgt : Int)) (kt : ¬ P → K tgt Lo st n σ w) (kf : P → K (pc + 3) Lo st n σ w) : K pc Lo (zi (zb (decide P)) :: st) n σ w :=
  x_ifeq_b C d ht (fun q => kt (of_decide_eq_false q)) (fun q => kf (of_decide_eq_true q))
theorem x_ifne_d {y : MethodName} {cc : ByteArray} {ml : Nat} {ret : Option FieldType} {h mc ms n0 : Nat} {Ret : zRT} {K : zKT} (C : zX y cc ml ret h mc ms n0 Ret K) {pc : Nat} {Lo : List (Option zV)} {st : List zV} {n : Nat} {σ : zS} {w : Nat} {P : Prop} [Decidable P] {off : Int} {tgt : Nat} (d : decode cc pc = .ok (.ifCond .ne off, 3)) (ht : (pc : Int) + off = (tgt : Int)) (kt : P → K tgt Lo st n σ w) (kf : ¬ P → K (pc + 3) Lo st n σ w) : K pc Lo (zi (zb (decide P)) :: st) n σ w :=
  x_ifne_b C d ht (fun q => kt (of_decide_eq_true q)) (fun q => kf (of_decide_eq_false q))
/-- size of a block by its depth, its number -/
def zsz (d : Int) : Int := if d = 0 then 16 else if d = 1 then 8 else if d = 2 then 4 else 2
def zno (d row col : Int) : Int := (if d = 0 then 0 else if d = 1 then 1 else if d = 2 then 5 else 21) + (row / zsz d) * (if d = 0 then 1 else if d = 1 then 2 else if d = 2 then 4 else 8) + col / zsz d
theorem z4 {d : Int} (h : 0 ≤ d ∧ d ≤ 3) : d = 0 ∨ d = 1 ∨ d = 2 ∨ d = 3 := by omega
theorem zsz_v {d : Int} (h : 0 ≤ d ∧ d ≤ 3) : (d = 0 ∧ zsz d = 16) ∨ (d = 1 ∧ zsz d = 8) ∨ (d = 2 ∧ zsz d = 4) ∨ (d = 3 ∧ zsz d = 2) := by
  rcases z4 h with rfl | rfl | rfl | rfl
  · exact Or.inl ⟨rfl, rfl⟩
  · exact Or.inr (Or.inl ⟨rfl, rfl⟩)
  · exact Or.inr (Or.inr (Or.inl ⟨rfl, rfl⟩))
  · exact Or.inr (Or.inr (Or.inr ⟨rfl, rfl⟩))
theorem zno_in {d row col : Int} (h : 0 ≤ d ∧ d ≤ 3) (hr : 0 ≤ row ∧ row < 16) (hc : 0 ≤ col ∧ col < 16) : 0 ≤ zno d row col ∧ zno d row col < 85 := by
  rcases z4 h with rfl | rfl | rfl | rfl
  · show 0 ≤ 0 + row / 16 * 1 + col / 16 ∧ 0 + row / 16 * 1 + col / 16 < 85; omega
  · show 0 ≤ 1 + row / 8 * 2 + col / 8 ∧ 1 + row / 8 * 2 + col / 8 < 85; omega
  · show 0 ≤ 5 + row / 4 * 4 + col / 4 ∧ 5 + row / 4 * 4 + col / 4 < 85; omega
  · show 0 ≤ 21 + row / 2 * 8 + col / 2 ∧ 21 + row / 2 * 8 + col / 2 < 85; omega
theorem zfirst {d e : Int} (h : 0 ≤ d ∧ d ≤ 3) (he : 0 ≤ e ∧ e < 16) : zand e (-zsz d) = e / zsz d * zsz d := by
  have key : ∀ (a : Fin 4) (b : Fin 16), zand ((b.val : Nat) : Int) (-zsz ((a.val : Nat) : Int)) = ((b.val : Nat) : Int) / zsz ((a.val : Nat) : Int) * zsz ((a.val : Nat) : Int) := by decide +kernel
  have k := key ⟨d.toNat, by omega⟩ ⟨e.toNat, by omega⟩
  dsimp only at k
  rw [Int.toNat_of_nonneg h.1, Int.toNat_of_nonneg he.1] at k
  exact k
section
variable {n : Nat} {σ : zS}
theorem ctX5_isMatrix (m : Int) (hm : -2147483648 ≤ m ∧ m < 2147483648) : zCt 1 0 0 yX5_isMatrix cX5_isMatrix 1 (some .boolean) [zi m] n σ (some (zi (zb (decide (0 ≤ m ∧ m < 4))))) n σ := by
  refine zCt.of (by decide) rfl (Nat.le_of_ble_eq_true rfl) (fun K C => ?_)
  refine x_iload_n C dX5_isMatrix_0 rfl ?_
  refine x_if_lt (tgt := 13) C dX5_isMatrix_1 (by decide) (by omega) (fun c1 => ?_) (fun c1 => ?_)
  · refine x_iconst C dX5_isMatrix_13 ?_
    exact x_zret (st := []) (b := false) C dX5_isMatrix_14 rfl ⟨congrArg (fun z => some (zi (zb z))) (decide_eq_false (by omega)).symm, rfl, rfl, rfl⟩
  · refine x_iload_n C dX5_isMatrix_4 rfl ?_
    refine x_iconst C dX5_isMatrix_5 ?_
    refine x_icmp_ge (tgt := 13) C dX5_isMatrix_6 (by decide) (by omega) (fun c6 => ?_) (fun c6 => ?_)
    · refine x_iconst C dX5_isMatrix_13 ?_
      exact x_zret (st := []) (b := false) C dX5_isMatrix_14 rfl ⟨congrArg (fun z => some (zi (zb z))) (decide_eq_false (by omega)).symm, rfl, rfl, rfl⟩
    · refine x_iconst C dX5_isMatrix_9 ?_
      refine x_goto (tgt := 14) C dX5_isMatrix_10 (by decide) ?_
      exact x_zret (st := []) (b := true) C dX5_isMatrix_14 rfl ⟨congrArg (fun z => some (zi (zb z))) (decide_eq_true (by omega)).symm, rfl, rfl, rfl⟩
theorem ctX5_isSlot (m : Int) (hm : -2147483648 ≤ m ∧ m < 2147483648) : zCt 1 0 0 yX5_isSlot cX5_isSlot 1 (some .boolean) [zi m] n σ (some (zi (zb (decide (0 ≤ m ∧ m < 2))))) n σ := by
  refine zCt.of (by decide) rfl (Nat.le_of_ble_eq_true rfl) (fun K C => ?_)
  refine x_iload_n C dX5_isSlot_0 rfl ?_
  refine x_if_lt (tgt := 13) C dX5_isSlot_1 (by decide) (by omega) (fun c1 => ?_) (fun c1 => ?_)
  · refine x_iconst C dX5_isSlot_13 ?_
    exact x_zret (st := []) (b := false) C dX5_isSlot_14 rfl ⟨congrArg (fun z => some (zi (zb z))) (decide_eq_false (by omega)).symm, rfl, rfl, rfl⟩
  · refine x_iload_n C dX5_isSlot_4 rfl ?_
    refine x_iconst C dX5_isSlot_5 ?_
    refine x_icmp_ge (tgt := 13) C dX5_isSlot_6 (by decide) (by omega) (fun c6 => ?_) (fun c6 => ?_)
    · refine x_iconst C dX5_isSlot_13 ?_
      exact x_zret (st := []) (b := false) C dX5_isSlot_14 rfl ⟨congrArg (fun z => some (zi (zb z))) (decide_eq_false (by omega)).symm, rfl, rfl, rfl⟩
    · refine x_iconst C dX5_isSlot_9 ?_
      refine x_goto (tgt := 14) C dX5_isSlot_10 (by decide) ?_
      exact x_zret (st := []) (b := true) C dX5_isSlot_14 rfl ⟨congrArg (fun z => some (zi (zb z))) (decide_eq_true (by omega)).symm, rfl, rfl, rfl⟩
theorem ctX5_isPlace (m r c : Int) (hm : -2147483648 ≤ m ∧ m < 2147483648) (hr : -2147483648 ≤ r ∧ r < 2147483648) (hc : -2147483648 ≤ c ∧ c < 2147483648) : zCt 2 0 0 yX5_isPlace cX5_isPlace 3 (some .boolean) [zi m, zi r, zi c] n σ (some (zi (zb (decide ((0 ≤ m ∧ m < 4) ∧ (0 ≤ r ∧ r < 16) ∧ 0 ≤ c ∧ c < 16))))) n σ := by
  refine zCt.of (by decide) rfl (Nat.le_of_ble_eq_true rfl) (fun K C => ?_)
  refine x_iload_n C dX5_isPlace_0 rfl ?_
  refine x_callS C dX5_isPlace_1 (ctX5_isMatrix m hm) okX5_isMatrix lkX5_48 ⟨by decide, rfl, rfl, Nat.le_of_ble_eq_true rfl⟩ rfl (Or.inl ⟨rfl, rfl⟩) ?_
  refine x_ifeq_d (tgt := 31) C dX5_isPlace_4 (by decide) (fun c4 => ?_) (fun c4 => ?_)
  · refine x_iconst C dX5_isPlace_31 ?_
    exact x_zret (st := []) (b := false) C dX5_isPlace_32 rfl ⟨congrArg (fun z => some (zi (zb z))) (decide_eq_false (by omega)).symm, rfl, rfl, rfl⟩
  · refine x_iload_n C dX5_isPlace_7 rfl ?_
    refine x_if_lt (tgt := 31) C dX5_isPlace_8 (by decide) (by omega) (fun c8 => ?_) (fun c8 => ?_)
    · refine x_iconst C dX5_isPlace_31 ?_
      exact x_zret (st := []) (b := false) C dX5_isPlace_32 rfl ⟨congrArg (fun z => some (zi (zb z))) (decide_eq_false (by omega)).symm, rfl, rfl, rfl⟩
    · refine x_iload_n C dX5_isPlace_11 rfl ?_
      refine x_bipush C dX5_isPlace_12 (by decide) ?_
      refine x_icmp_ge (tgt := 31) C dX5_isPlace_14 (by decide) (by omega) (fun c14 => ?_) (fun c14 => ?_)
      · refine x_iconst C dX5_isPlace_31 ?_
        exact x_zret (st := []) (b := false) C dX5_isPlace_32 rfl ⟨congrArg (fun z => some (zi (zb z))) (decide_eq_false (by omega)).symm, rfl, rfl, rfl⟩
      · refine x_iload_n C dX5_isPlace_17 rfl ?_
        refine x_if_lt (tgt := 31) C dX5_isPlace_18 (by decide) (by omega) (fun c18 => ?_) (fun c18 => ?_)
        · refine x_iconst C dX5_isPlace_31 ?_
          exact x_zret (st := []) (b := false) C dX5_isPlace_32 rfl ⟨congrArg (fun z => some (zi (zb z))) (decide_eq_false (by omega)).symm, rfl, rfl, rfl⟩
        · refine x_iload_n C dX5_isPlace_21 rfl ?_
          refine x_bipush C dX5_isPlace_22 (by decide) ?_
          refine x_icmp_ge (tgt := 31) C dX5_isPlace_24 (by decide) (by omega) (fun c24 => ?_) (fun c24 => ?_)
          · refine x_iconst C dX5_isPlace_31 ?_
            exact x_zret (st := []) (b := false) C dX5_isPlace_32 rfl ⟨congrArg (fun z => some (zi (zb z))) (decide_eq_false (by omega)).symm, rfl, rfl, rfl⟩
          · refine x_iconst C dX5_isPlace_27 ?_
            refine x_goto (tgt := 32) C dX5_isPlace_28 (by decide) ?_
            exact x_zret (st := []) (b := true) C dX5_isPlace_32 rfl ⟨congrArg (fun z => some (zi (zb z))) (decide_eq_true (by omega)).symm, rfl, rfl, rfl⟩
theorem ctX5_isWithin (x q : Int) (hx : -2147483648 ≤ x ∧ x < 2147483648) (hq : 0 ≤ q ∧ q < 2147483648) : zCt 1 0 0 yX5_isWithin cX5_isWithin 2 (some .boolean) [zi x, zi q] n σ (some (zi (zb (decide (-q ≤ x ∧ x ≤ q))))) n σ := by
  refine zCt.of (by decide) rfl (Nat.le_of_ble_eq_true rfl) (fun K C => ?_)
  refine x_iload_n C dX5_isWithin_0 rfl ?_
  refine x_iload_n C dX5_isWithin_1 rfl ?_
  refine x_ineg C dX5_isWithin_2 ?_
  refine x_icmp_lt (tgt := 15) C dX5_isWithin_3 (by decide) (by omega) (fun c3 => ?_) (fun c3 => ?_)
  · refine x_iconst C dX5_isWithin_15 ?_
    exact x_zret (st := []) (b := false) C dX5_isWithin_16 rfl ⟨congrArg (fun z => some (zi (zb z))) (decide_eq_false (by omega)).symm, rfl, rfl, rfl⟩
  · refine x_iload_n C dX5_isWithin_6 rfl ?_
    refine x_iload_n C dX5_isWithin_7 rfl ?_
    refine x_icmp_gt (tgt := 15) C dX5_isWithin_8 (by decide) (by omega) (fun c8 => ?_) (fun c8 => ?_)
    · refine x_iconst C dX5_isWithin_15 ?_
      exact x_zret (st := []) (b := false) C dX5_isWithin_16 rfl ⟨congrArg (fun z => some (zi (zb z))) (decide_eq_false (by omega)).symm, rfl, rfl, rfl⟩
    · refine x_iconst C dX5_isWithin_11 ?_
      refine x_goto (tgt := 16) C dX5_isWithin_12 (by decide) ?_
      exact x_zret (st := []) (b := true) C dX5_isWithin_16 rfl ⟨congrArg (fun z => some (zi (zb z))) (decide_eq_true (by omega)).symm, rfl, rfl, rfl⟩
theorem ctX5_sizeAt (d : Int) (hd : 0 ≤ d ∧ d ≤ 3) : zCt 1 0 0 yX5_sizeAt cX5_sizeAt 1 (some .int) [zi d] n σ (some (zi (zsz d))) n σ := by
  refine zCt.of (by decide) rfl (Nat.le_of_ble_eq_true rfl) (fun K C => ?_)
  refine x_bipush C dX5_sizeAt_0 (by decide) ?_
  refine x_iload_n C dX5_sizeAt_2 rfl ?_
  refine x_ishr C dX5_sizeAt_3 (by omega) ?_
  exact x_iret (st := []) C dX5_sizeAt_4 rfl ⟨congrArg (fun z => some (zi z)) (by rcases z4 hd with rfl | rfl | rfl | rfl <;> decide), rfl, rfl, rfl⟩
theorem ctX5_firstOf (d e : Int) (hd : 0 ≤ d ∧ d ≤ 3) (he : 0 ≤ e ∧ e < 16) : zCt 2 0 0 yX5_firstOf cX5_firstOf 2 (some .int) [zi d, zi e] n σ (some (zi (e / zsz d * zsz d))) n σ := by
  refine zCt.of (by decide) rfl (Nat.le_of_ble_eq_true rfl) (fun K C => ?_)
  refine x_iload_n C dX5_firstOf_0 rfl ?_
  refine x_iload_n C dX5_firstOf_1 rfl ?_
  refine x_callS C dX5_firstOf_2 (ctX5_sizeAt d hd) okX5_sizeAt lkX5_115 ⟨by decide, rfl, rfl, Nat.le_of_ble_eq_true rfl⟩ rfl (Or.inl ⟨rfl, rfl⟩) ?_
  refine x_ineg C dX5_firstOf_5 ?_
  refine x_iand C dX5_firstOf_6 ?_
  exact x_iret (st := []) C dX5_firstOf_7 rfl ⟨congrArg (fun z => some (zi z)) (zfirst hd he), rfl, rfl, rfl⟩
/-- the room of a block that is not cut -/
def zrm (s q : Int) : Int := if s = 1 then q * q else if s = 2 then 2 * q else 0
theorem ctX5_roomOfUncut (s q : Int) (hs : -2147483648 ≤ s ∧ s < 2147483648) : zCt 1 0 0 yX5_roomOfUncut cX5_roomOfUncut 2 (some .int) [zi s, zi q] n σ (some (zi (zrm s q))) n σ := by
  refine zCt.of (by decide) rfl (Nat.le_of_ble_eq_true rfl) (fun K C => ?_)
  refine x_iload_n C dX5_roomOfUncut_0 rfl ?_
  refine x_iconst C dX5_roomOfUncut_1 ?_
  refine x_icmp_ne (tgt := 9) C dX5_roomOfUncut_2 (by decide) (by omega) (fun c2 => ?_) (fun c2 => ?_)
  · refine x_iload_n C dX5_roomOfUncut_9 rfl ?_
    refine x_iconst C dX5_roomOfUncut_10 ?_
    refine x_icmp_ne (tgt := 20) C dX5_roomOfUncut_11 (by decide) (by omega) (fun c11 => ?_) (fun c11 => ?_)
    · refine x_iconst C dX5_roomOfUncut_20 ?_
      exact x_iret (st := []) C dX5_roomOfUncut_21 rfl ⟨congrArg (fun z => some (zi z)) (by simp [zrm, c2, c11]), rfl, rfl, rfl⟩
    · refine x_iconst C dX5_roomOfUncut_14 ?_
      refine x_iload_n C dX5_roomOfUncut_15 rfl ?_
      refine x_imul C dX5_roomOfUncut_16 ?_
      refine x_goto (tgt := 21) C dX5_roomOfUncut_17 (by decide) ?_
      exact x_iret (st := []) C dX5_roomOfUncut_21 rfl ⟨congrArg (fun z => some (zi z)) (by simp [zrm, c2, c11]), rfl, rfl, rfl⟩
  · refine x_iload_n C dX5_roomOfUncut_5 rfl ?_
    refine x_iload_n C dX5_roomOfUncut_6 rfl ?_
    refine x_imul C dX5_roomOfUncut_7 ?_
    exact x_iret (st := []) C dX5_roomOfUncut_8 rfl ⟨congrArg (fun z => some (zi z)) (if_pos c2).symm, rfl, rfl, rfl⟩
theorem ctX1_cellOf (row col : Int) : zCt 1 0 0 yX1_cellOf cX1_cellOf 2 (some .int) [zi row, zi col] n σ (some (zi (row * 16 + col))) n σ := by
  refine zCt.of (by decide) rfl (Nat.le_of_ble_eq_true rfl) (fun K C => ?_)
  refine x_iload_n C dX1_cellOf_0 rfl ?_
  refine x_bipush C dX1_cellOf_1 (by decide) ?_
  refine x_imul C dX1_cellOf_3 ?_
  refine x_iload_n C dX1_cellOf_4 rfl ?_
  refine x_iadd C dX1_cellOf_5 ?_
  exact x_iret (st := []) C dX1_cellOf_6 rfl ⟨congrArg (fun z => some (zi z)) (by first | rfl | omega), rfl, rfl, rfl⟩
theorem ctX1_numberOf (d row col : Int) (hd : 0 ≤ d ∧ d ≤ 3) (hr : 0 ≤ row ∧ row < 16) (hc : 0 ≤ col ∧ col < 16) : zCt 1 0 0 yX1_numberOf cX1_numberOf 5 (some .int) [zi d, zi row, zi col] n σ (some (zi (zno d row col))) n σ := by
  refine zCt.of (by decide) rfl (Nat.le_of_ble_eq_true rfl) (fun K C => ?_)
  rcases z4 hd with rfl | rfl | rfl | rfl
  ·
    refine x_iconst C dX1_numberOf_0 ?_
    refine x_iload_n C dX1_numberOf_1 rfl ?_
    refine x_isub C dX1_numberOf_2 ?_
    refine x_istore_n C dX1_numberOf_3 (by decide) ?_
    refine x_iconst C dX1_numberOf_4 ?_
    refine x_iconst C dX1_numberOf_5 ?_
    refine x_iload_n C dX1_numberOf_6 rfl ?_
    refine x_imul C dX1_numberOf_7 ?_
    refine x_ishl C dX1_numberOf_8 (by omega) ?_
    refine x_iconst C dX1_numberOf_9 ?_
    refine x_isub C dX1_numberOf_10 ?_
    refine x_iconst C dX1_numberOf_11 ?_
    refine x_idiv C dX1_numberOf_12 (by decide) ?_
    refine x_istore C dX1_numberOf_13 (by decide) ?_
    refine x_iload C dX1_numberOf_15 rfl ?_
    refine x_iload_n C dX1_numberOf_17 rfl ?_
    refine x_iload_n C dX1_numberOf_18 rfl ?_
    refine x_ishr C dX1_numberOf_19 (by omega) ?_
    refine x_iload_n C dX1_numberOf_20 rfl ?_
    refine x_ishl C dX1_numberOf_21 (by omega) ?_
    refine x_iadd C dX1_numberOf_22 ?_
    refine x_iload_n C dX1_numberOf_23 rfl ?_
    refine x_iload_n C dX1_numberOf_24 rfl ?_
    refine x_ishr C dX1_numberOf_25 (by omega) ?_
    refine x_iadd C dX1_numberOf_26 ?_
    exact x_iret (st := []) C dX1_numberOf_27 rfl ⟨congrArg (fun z => some (zi z)) (by first | rfl | simp [zno, zsz]), rfl, rfl, rfl⟩
  ·
    refine x_iconst C dX1_numberOf_0 ?_
    refine x_iload_n C dX1_numberOf_1 rfl ?_
    refine x_isub C dX1_numberOf_2 ?_
    refine x_istore_n C dX1_numberOf_3 (by decide) ?_
    refine x_iconst C dX1_numberOf_4 ?_
    refine x_iconst C dX1_numberOf_5 ?_
    refine x_iload_n C dX1_numberOf_6 rfl ?_
    refine x_imul C dX1_numberOf_7 ?_
    refine x_ishl C dX1_numberOf_8 (by omega) ?_
    refine x_iconst C dX1_numberOf_9 ?_
    refine x_isub C dX1_numberOf_10 ?_
    refine x_iconst C dX1_numberOf_11 ?_
    refine x_idiv C dX1_numberOf_12 (by decide) ?_
    refine x_istore C dX1_numberOf_13 (by decide) ?_
    refine x_iload C dX1_numberOf_15 rfl ?_
    refine x_iload_n C dX1_numberOf_17 rfl ?_
    refine x_iload_n C dX1_numberOf_18 rfl ?_
    refine x_ishr C dX1_numberOf_19 (by omega) ?_
    refine x_iload_n C dX1_numberOf_20 rfl ?_
    refine x_ishl C dX1_numberOf_21 (by omega) ?_
    refine x_iadd C dX1_numberOf_22 ?_
    refine x_iload_n C dX1_numberOf_23 rfl ?_
    refine x_iload_n C dX1_numberOf_24 rfl ?_
    refine x_ishr C dX1_numberOf_25 (by omega) ?_
    refine x_iadd C dX1_numberOf_26 ?_
    exact x_iret (st := []) C dX1_numberOf_27 rfl ⟨congrArg (fun z => some (zi z)) (by first | rfl | simp [zno, zsz]), rfl, rfl, rfl⟩
  ·
    refine x_iconst C dX1_numberOf_0 ?_
    refine x_iload_n C dX1_numberOf_1 rfl ?_
    refine x_isub C dX1_numberOf_2 ?_
    refine x_istore_n C dX1_numberOf_3 (by decide) ?_
    refine x_iconst C dX1_numberOf_4 ?_
    refine x_iconst C dX1_numberOf_5 ?_
    refine x_iload_n C dX1_numberOf_6 rfl ?_
    refine x_imul C dX1_numberOf_7 ?_
    refine x_ishl C dX1_numberOf_8 (by omega) ?_
    refine x_iconst C dX1_numberOf_9 ?_
    refine x_isub C dX1_numberOf_10 ?_
    refine x_iconst C dX1_numberOf_11 ?_
    refine x_idiv C dX1_numberOf_12 (by decide) ?_
    refine x_istore C dX1_numberOf_13 (by decide) ?_
    refine x_iload C dX1_numberOf_15 rfl ?_
    refine x_iload_n C dX1_numberOf_17 rfl ?_
    refine x_iload_n C dX1_numberOf_18 rfl ?_
    refine x_ishr C dX1_numberOf_19 (by omega) ?_
    refine x_iload_n C dX1_numberOf_20 rfl ?_
    refine x_ishl C dX1_numberOf_21 (by omega) ?_
    refine x_iadd C dX1_numberOf_22 ?_
    refine x_iload_n C dX1_numberOf_23 rfl ?_
    refine x_iload_n C dX1_numberOf_24 rfl ?_
    refine x_ishr C dX1_numberOf_25 (by omega) ?_
    refine x_iadd C dX1_numberOf_26 ?_
    exact x_iret (st := []) C dX1_numberOf_27 rfl ⟨congrArg (fun z => some (zi z)) (by first | rfl | simp [zno, zsz]), rfl, rfl, rfl⟩
  ·
    refine x_iconst C dX1_numberOf_0 ?_
    refine x_iload_n C dX1_numberOf_1 rfl ?_
    refine x_isub C dX1_numberOf_2 ?_
    refine x_istore_n C dX1_numberOf_3 (by decide) ?_
    refine x_iconst C dX1_numberOf_4 ?_
    refine x_iconst C dX1_numberOf_5 ?_
    refine x_iload_n C dX1_numberOf_6 rfl ?_
    refine x_imul C dX1_numberOf_7 ?_
    refine x_ishl C dX1_numberOf_8 (by omega) ?_
    refine x_iconst C dX1_numberOf_9 ?_
    refine x_isub C dX1_numberOf_10 ?_
    refine x_iconst C dX1_numberOf_11 ?_
    refine x_idiv C dX1_numberOf_12 (by decide) ?_
    refine x_istore C dX1_numberOf_13 (by decide) ?_
    refine x_iload C dX1_numberOf_15 rfl ?_
    refine x_iload_n C dX1_numberOf_17 rfl ?_
    refine x_iload_n C dX1_numberOf_18 rfl ?_
    refine x_ishr C dX1_numberOf_19 (by omega) ?_
    refine x_iload_n C dX1_numberOf_20 rfl ?_
    refine x_ishl C dX1_numberOf_21 (by omega) ?_
    refine x_iadd C dX1_numberOf_22 ?_
    refine x_iload_n C dX1_numberOf_23 rfl ?_
    refine x_iload_n C dX1_numberOf_24 rfl ?_
    refine x_ishr C dX1_numberOf_25 (by omega) ?_
    refine x_iadd C dX1_numberOf_26 ?_
    exact x_iret (st := []) C dX1_numberOf_27 rfl ⟨congrArg (fun z => some (zi z)) (by first | rfl | simp [zno, zsz]), rfl, rfl, rfl⟩
theorem ctX1_rowOfPart (d row q : Int) (hd : 0 ≤ d ∧ d ≤ 2) (hq : 0 ≤ q ∧ q < 4) : zCt 2 0 0 yX1_rowOfPart cX1_rowOfPart 3 (some .int) [zi d, zi row, zi q] n σ (some (zi (row + q / 2 * zsz (d + 1)))) n σ := by
  refine zCt.of (by decide) rfl (Nat.le_of_ble_eq_true rfl) (fun K C => ?_)
  refine x_iload_n C dX1_rowOfPart_0 rfl ?_
  refine x_iload_n C dX1_rowOfPart_1 rfl ?_
  refine x_iconst C dX1_rowOfPart_2 ?_
  refine x_idiv C dX1_rowOfPart_3 (by omega) ?_
  refine x_iload_n C dX1_rowOfPart_4 rfl ?_
  refine x_iconst C dX1_rowOfPart_5 ?_
  refine x_iadd C dX1_rowOfPart_6 ?_
  refine x_callSN C dX1_rowOfPart_7 (ctX5_sizeAt (d + 1) (by omega)) okX5_sizeAt nkX1_24 ⟨by decide, rfl, rfl, Nat.le_of_ble_eq_true rfl⟩ rfl (Or.inl ⟨rfl, rfl⟩) ?_
  refine x_imul C dX1_rowOfPart_10 ?_
  refine x_iadd C dX1_rowOfPart_11 ?_
  exact x_iret (st := []) C dX1_rowOfPart_12 rfl ⟨congrArg (fun z => some (zi z)) (by first | rfl | omega), rfl, rfl, rfl⟩
theorem ctX1_columnOfPart (d row q : Int) (hd : 0 ≤ d ∧ d ≤ 2) (hq : 0 ≤ q ∧ q < 4) : zCt 2 0 0 yX1_columnOfPart cX1_columnOfPart 3 (some .int) [zi d, zi row, zi q] n σ (some (zi (row + q % 2 * zsz (d + 1)))) n σ := by
  refine zCt.of (by decide) rfl (Nat.le_of_ble_eq_true rfl) (fun K C => ?_)
  refine x_iload_n C dX1_columnOfPart_0 rfl ?_
  refine x_iload_n C dX1_columnOfPart_1 rfl ?_
  refine x_iconst C dX1_columnOfPart_2 ?_
  refine x_irem C dX1_columnOfPart_3 (by omega) ?_
  refine x_iload_n C dX1_columnOfPart_4 rfl ?_
  refine x_iconst C dX1_columnOfPart_5 ?_
  refine x_iadd C dX1_columnOfPart_6 ?_
  refine x_callSN C dX1_columnOfPart_7 (ctX5_sizeAt (d + 1) (by omega)) okX5_sizeAt nkX1_24 ⟨by decide, rfl, rfl, Nat.le_of_ble_eq_true rfl⟩ rfl (Or.inl ⟨rfl, rfl⟩) ?_
  refine x_imul C dX1_columnOfPart_10 ?_
  refine x_iadd C dX1_columnOfPart_11 ?_
  exact x_iret (st := []) C dX1_columnOfPart_12 rfl ⟨congrArg (fun z => some (zi z)) (by first | rfl | omega), rfl, rfl, rfl⟩
/-- a matrix: its cell h, its two tables behind it -/
def isM (σ : zS) (n : Nat) (h : Int) (e t : Int → Int) : Prop := σ h = zO 1 [zr (h + 1), zr (h + 2)] ∧ σ (h + 1) = zA 256 e ∧ σ (h + 2) = zA 85 t ∧ 0 < h ∧ h + 2 ≤ n
def cellIn (row col : Int) : Prop := (0 ≤ row ∧ row < 16) ∧ 0 ≤ col ∧ col < 16
theorem ctX1_entryAt {h : Int} {e t : Int → Int} (hm : isM σ n h e t) (row col : Int) (hr : 0 ≤ row ∧ row < 16) (hc : 0 ≤ col ∧ col < 16) : zCt 2 0 0 yX1_entryAt cX1_entryAt 3 (some .int) [zr h, zi row, zi col] n σ (some (zi (e (row * 16 + col)))) n σ := by
  obtain ⟨hM, hE, hT, hh⟩ := hm
  refine zCt.of (by decide) rfl (Nat.le_of_ble_eq_true rfl) (fun K C => ?_)
  refine x_aload_n C dX1_entryAt_0 rfl ?_
  refine x_getfield C dX1_entryAt_1 lfX1_9 hM (by omega) rfl ?_
  refine x_iload_n C dX1_entryAt_4 rfl ?_
  refine x_iload_n C dX1_entryAt_5 rfl ?_
  refine x_callS C dX1_entryAt_6 (ctX1_cellOf _ _) okX1_cellOf lkX1_28 ⟨by decide, rfl, rfl, Nat.le_of_ble_eq_true rfl⟩ rfl (Or.inl ⟨rfl, rfl⟩) ?_
  refine x_iaload C dX1_entryAt_9 hE (by omega) ?_
  exact x_iret (st := []) C dX1_entryAt_10 rfl ⟨congrArg (fun z => some (zi z)) (by first | rfl | omega), rfl, rfl, rfl⟩
theorem ctX1_sortOf {h : Int} {e t : Int → Int} (hm : isM σ n h e t) (d row col : Int) (hd : 0 ≤ d ∧ d ≤ 3) (hr : 0 ≤ row ∧ row < 16) (hc : 0 ≤ col ∧ col < 16) : zCt 2 0 0 yX1_sortOf cX1_sortOf 4 (some .int) [zr h, zi d, zi row, zi col] n σ (some (zi (t (zno d row col)))) n σ := by
  obtain ⟨hM, hE, hT, hh⟩ := hm
  have hno := zno_in hd hr hc
  refine zCt.of (by decide) rfl (Nat.le_of_ble_eq_true rfl) (fun K C => ?_)
  refine x_aload_n C dX1_sortOf_0 rfl ?_
  refine x_getfield C dX1_sortOf_1 lfX1_15 hM (by omega) rfl ?_
  refine x_iload_n C dX1_sortOf_4 rfl ?_
  refine x_iload_n C dX1_sortOf_5 rfl ?_
  refine x_iload_n C dX1_sortOf_6 rfl ?_
  refine x_callS C dX1_sortOf_7 (ctX1_numberOf d row col hd hr hc) okX1_numberOf lkX1_32 ⟨by decide, rfl, rfl, Nat.le_of_ble_eq_true rfl⟩ rfl (Or.inl ⟨rfl, rfl⟩) ?_
  refine x_iaload C dX1_sortOf_10 hT (by omega) ?_
  exact x_iret (st := []) C dX1_sortOf_11 rfl ⟨congrArg (fun z => some (zi z)) (by first | rfl | omega), rfl, rfl, rfl⟩
theorem ctX1_setSort {h : Int} {e t : Int → Int} (hm : isM σ n h e t) (d row col x : Int) (hd : 0 ≤ d ∧ d ≤ 3) (hr : 0 ≤ row ∧ row < 16) (hc : 0 ≤ col ∧ col < 16) : zCt 2 0 0 yX1_setSort cX1_setSort 5 none [zr h, zi d, zi row, zi col, zi x] n σ none n (zsu σ (h + 2) (zA 85 (zu t (zno d row col) x))) := by
  obtain ⟨hM, hE, hT, hh⟩ := hm
  have hno := zno_in hd hr hc
  refine zCt.of (by decide) rfl (Nat.le_of_ble_eq_true rfl) (fun K C => ?_)
  refine x_aload_n C dX1_setSort_0 rfl ?_
  refine x_getfield C dX1_setSort_1 lfX1_15 hM (by omega) rfl ?_
  refine x_iload_n C dX1_setSort_4 rfl ?_
  refine x_iload_n C dX1_setSort_5 rfl ?_
  refine x_iload_n C dX1_setSort_6 rfl ?_
  refine x_callS C dX1_setSort_7 (ctX1_numberOf d row col hd hr hc) okX1_numberOf lkX1_32 ⟨by decide, rfl, rfl, Nat.le_of_ble_eq_true rfl⟩ rfl (Or.inl ⟨rfl, rfl⟩) ?_
  refine x_iload C dX1_setSort_10 rfl ?_
  refine x_iastore C dX1_setSort_12 hT (by omega) ?_
  refine x_nm (fun s12 e12 => ?_)
  have hM := (congrFun e12 h).trans ((zsu_n _ _ (by omega)).trans hM)
  have hE := (congrFun e12 (h+1)).trans ((zsu_n _ _ (by omega)).trans hE)
  have hT := (congrFun e12 (h+2)).trans (zsu_s _ _ _)
  exact x_vret (st := []) C dX1_setSort_13 rfl ⟨rfl, rfl, e12, rfl⟩
theorem ctX1_isCut {h : Int} {e t : Int → Int} (hm : isM σ n h e t) (ht : ∀ j, 0 ≤ t j ∧ t j ≤ 3) (d row col : Int) (hd : 0 ≤ d ∧ d ≤ 3) (hr : 0 ≤ row ∧ row < 16) (hc : 0 ≤ col ∧ col < 16) : zCt 3 0 0 yX1_isCut cX1_isCut 4 (some .boolean) [zr h, zi d, zi row, zi col] n σ (some (zi (zb (decide (d < 3 ∧ t (zno d row col) = 3))))) n σ := by
  obtain ⟨hM, hE, hT, hh⟩ := hm
  have ht1 := ht (zno d row col)
  refine zCt.of (by decide) rfl (Nat.le_of_ble_eq_true rfl) (fun K C => ?_)
  refine x_iload_n C dX1_isCut_0 rfl ?_
  refine x_iconst C dX1_isCut_1 ?_
  refine x_icmp_ge (tgt := 20) C dX1_isCut_2 (by decide) (by omega) (fun c2 => ?_) (fun c2 => ?_)
  · refine x_iconst C dX1_isCut_20 ?_
    exact x_zret (st := []) (b := false) C dX1_isCut_21 rfl ⟨congrArg (fun z => some (zi (zb z))) (decide_eq_false (by omega)).symm, rfl, rfl, rfl⟩
  · refine x_aload_n C dX1_isCut_5 rfl ?_
    refine x_iload_n C dX1_isCut_6 rfl ?_
    refine x_iload_n C dX1_isCut_7 rfl ?_
    refine x_iload_n C dX1_isCut_8 rfl ?_
    refine x_callV C dX1_isCut_9 (ctX1_sortOf ⟨hM, hE, hT, hh⟩ d row col (by omega) hr hc) okX1_sortOf lkX1_36 ⟨⟨hM, rfl, rfl⟩, (by omega)⟩ ⟨by decide, rfl, rfl, Nat.le_of_ble_eq_true rfl⟩ rfl (Or.inl ⟨rfl, rfl⟩) ?_
    refine x_iconst C dX1_isCut_12 ?_
    refine x_icmp_ne (tgt := 20) C dX1_isCut_13 (by decide) (by omega) (fun c13 => ?_) (fun c13 => ?_)
    · refine x_iconst C dX1_isCut_20 ?_
      exact x_zret (st := []) (b := false) C dX1_isCut_21 rfl ⟨congrArg (fun z => some (zi (zb z))) (decide_eq_false (by omega)).symm, rfl, rfl, rfl⟩
    · refine x_iconst C dX1_isCut_16 ?_
      refine x_goto (tgt := 21) C dX1_isCut_17 (by decide) ?_
      exact x_zret (st := []) (b := true) C dX1_isCut_21 rfl ⟨congrArg (fun z => some (zi (zb z))) (decide_eq_true (by omega)).symm, rfl, rfl, rfl⟩
end
