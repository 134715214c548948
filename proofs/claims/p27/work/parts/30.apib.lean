section
variable {n : Nat} {σ : zS} {X : zSV} {o l : Int} {Hs : Int → zSV} {Sl : Int → zSV × Bool} {f : Int → Int} {L : Int}
theorem ctX5_shrinkE (m : Int) (hm : -2147483648 ≤ m ∧ m < 2147483648) {r : Int} (hE : r = -1 ∧ ¬ (0 ≤ m ∧ m < 4)) : zCt 12 0 0 yX5_shrink cX5_shrink 3 (some .int) [zr 1, zi m] n σ (some (zi r)) n σ := by
  refine zCt.of (by decide) rfl (Nat.le_of_ble_eq_true rfl) (fun K C => ?_)
  refine x_iload_n C dX5_shrink_0 rfl ?_
  refine x_callS C dX5_shrink_1 (ctX5_isMatrix _ (by omega)) okX5_isMatrix lkX5_48 ⟨by decide, rfl, rfl, Nat.le_of_ble_eq_true rfl⟩ rfl (Or.inl ⟨rfl, rfl⟩) ?_
  refine x_ifne_d (tgt := 9) C dX5_shrink_4 (by decide) (fun c4 => ?_) (fun c4 => ?_)
  · exact absurd c4 hE.2
  · refine x_iconst C dX5_shrink_7 ?_
    exact x_iret (st := []) C dX5_shrink_8 rfl ⟨congrArg (fun z => some (zi z)) (by first | rfl | omega), rfl, rfl, rfl⟩
theorem ctX5_shrink (R : RepC σ n X o l Hs Sl f L) (m : Int) (hm : 0 ≤ m ∧ m < 4) : zCt 12 0 0 yX5_shrink cX5_shrink 3 (some .int) [zr 1, zi m] n σ (some (zi (zroom (X.2.1 m) 3 0 0 - (zshr (X.1 m) 3 (X.2.1 m) 0 0).2))) n (sM (zbc σ X o l) (2 + 2 + 3 * m) (X.1 m) (zshr (X.1 m) 3 (X.2.1 m) 0 0).1) := by
  obtain ⟨hB, ⟨hS, hok⟩, ⟨hH, -⟩, -⟩ := R
  obtain ⟨hN0, hN1, hin, hmat⟩ := id hS
  have hmm := hmat m hm.1 hm.2
  have hA := hmm.1
  have hB0 := hB.1
  have hn := hB.2
  refine zCt.of (by decide) rfl (Nat.le_of_ble_eq_true rfl) (fun K C => ?_)
  refine x_iload_n C dX5_shrink_0 rfl ?_
  refine x_callS C dX5_shrink_1 (ctX5_isMatrix _ (by omega)) okX5_isMatrix lkX5_48 ⟨by decide, rfl, rfl, Nat.le_of_ble_eq_true rfl⟩ rfl (Or.inl ⟨rfl, rfl⟩) ?_
  refine x_ifne_d (tgt := 9) C dX5_shrink_4 (by decide) (fun c4 => ?_) (fun c4 => ?_)
  · refine x_aload_n C dX5_shrink_9 rfl ?_
    refine x_callV C dX5_shrink_10 (ctX5_beginChange hB hH hS) okX5_beginChange lkX5_56 ⟨⟨hB0, rfl, rfl⟩, (by omega)⟩ ⟨by decide, rfl, rfl, Nat.le_of_ble_eq_true rfl⟩ rfl (Or.inl ⟨rfl, rfl⟩) ?_
    obtain ⟨hH1, hS1⟩ := zbc_is hH hS
    obtain ⟨hN0, hN1, hin, hmat⟩ := id hS1
    have hB1 := hB.ag (zbc_ag (σ := σ) (X := X) (o := o) (l := l)) (by decide)
    have hB0 := hB1.1
    have hmm := hmat m hm.1 hm.2
    have hA := hmm.1
    refine x_aload_n C dX5_shrink_13 rfl ?_
    refine x_getfield C dX5_shrink_14 lfX5_12 hB0 (by omega) rfl ?_
    refine x_getfieldN C dX5_shrink_17 nfX5_59 hN0 (by omega) rfl ?_
    refine x_iload_n C dX5_shrink_20 rfl ?_
    refine x_aaload3 C dX5_shrink_21 hN1 (by omega) rfl ?_
    refine x_callV C dX5_shrink_22 (ctX1_room hmm (hok.2 m)) okX1_room lkX5_74 ⟨⟨hA, rfl, rfl⟩, (by omega)⟩ ⟨by decide, rfl, rfl, Nat.le_of_ble_eq_true rfl⟩ rfl (Or.inl ⟨rfl, rfl⟩) ?_
    refine x_istore_n C dX5_shrink_25 (by decide) ?_
    refine x_iload_n C dX5_shrink_26 rfl ?_
    refine x_aload_n C dX5_shrink_27 rfl ?_
    refine x_getfield C dX5_shrink_28 lfX5_12 hB0 (by omega) rfl ?_
    refine x_getfieldN C dX5_shrink_31 nfX5_59 hN0 (by omega) rfl ?_
    refine x_iload_n C dX5_shrink_34 rfl ?_
    refine x_aaload3 C dX5_shrink_35 hN1 (by omega) rfl ?_
    refine x_callV C dX5_shrink_36 (ctX1_makeSmaller hmm (hok.1 m) (hok.2 m)) okX1_makeSmaller lkX5_95 ⟨⟨hA, rfl, rfl⟩, (by omega)⟩ ⟨by decide, rfl, rfl, Nat.le_of_ble_eq_true rfl⟩ rfl (Or.inl ⟨rfl, rfl⟩) ?_
    refine x_isub C dX5_shrink_39 ?_
    exact x_iret (st := []) C dX5_shrink_40 rfl ⟨congrArg (fun z => some (zi z)) (by first | rfl | omega), rfl, rfl, rfl⟩
  · exact absurd hm c4
theorem ctX5_turnE (m : Int) (hm : -2147483648 ≤ m ∧ m < 2147483648) {r : Int} (hE : r = -1 ∧ ¬ (0 ≤ m ∧ m < 4)) : zCt 5 0 0 yX5_turn cX5_turn 2 (some .int) [zr 1, zi m] n σ (some (zi r)) n σ := by
  refine zCt.of (by decide) rfl (Nat.le_of_ble_eq_true rfl) (fun K C => ?_)
  refine x_iload_n C dX5_turn_0 rfl ?_
  refine x_callS C dX5_turn_1 (ctX5_isMatrix _ (by omega)) okX5_isMatrix lkX5_48 ⟨by decide, rfl, rfl, Nat.le_of_ble_eq_true rfl⟩ rfl (Or.inl ⟨rfl, rfl⟩) ?_
  refine x_ifne_d (tgt := 9) C dX5_turn_4 (by decide) (fun c4 => ?_) (fun c4 => ?_)
  · exact absurd c4 hE.2
  · refine x_iconst C dX5_turn_7 ?_
    exact x_iret (st := []) C dX5_turn_8 rfl ⟨congrArg (fun z => some (zi z)) (by first | rfl | omega), rfl, rfl, rfl⟩
theorem ctX5_turn (R : RepC σ n X o l Hs Sl f L) (m : Int) (hm : 0 ≤ m ∧ m < 4) : zCt 5 0 0 yX5_turn cX5_turn 2 (some .int) [zr 1, zi m] n σ (some (zi (zsm (fun k => ztp (X.1 m) 16 0 (k * 16 + k)) 16 + 100000000))) n (sM (zbc σ X o l) (2 + 2 + 3 * m) (ztp (X.1 m) 16 0) (zfo (fun t d => zts d t) (X.2.1 m) 4)) := by
  obtain ⟨hB, ⟨hS, hok⟩, ⟨hH, -⟩, -⟩ := R
  obtain ⟨hN0, hN1, hin, hmat⟩ := id hS
  have hmm := hmat m hm.1 hm.2
  have hA := hmm.1
  have hB0 := hB.1
  have hn := hB.2
  refine zCt.of (by decide) rfl (Nat.le_of_ble_eq_true rfl) (fun K C => ?_)
  refine x_iload_n C dX5_turn_0 rfl ?_
  refine x_callS C dX5_turn_1 (ctX5_isMatrix _ (by omega)) okX5_isMatrix lkX5_48 ⟨by decide, rfl, rfl, Nat.le_of_ble_eq_true rfl⟩ rfl (Or.inl ⟨rfl, rfl⟩) ?_
  refine x_ifne_d (tgt := 9) C dX5_turn_4 (by decide) (fun c4 => ?_) (fun c4 => ?_)
  · refine x_aload_n C dX5_turn_9 rfl ?_
    refine x_callV C dX5_turn_10 (ctX5_beginChange hB hH hS) okX5_beginChange lkX5_56 ⟨⟨hB0, rfl, rfl⟩, (by omega)⟩ ⟨by decide, rfl, rfl, Nat.le_of_ble_eq_true rfl⟩ rfl (Or.inl ⟨rfl, rfl⟩) ?_
    obtain ⟨hH1, hS1⟩ := zbc_is hH hS
    obtain ⟨hN0, hN1, hin, hmat⟩ := id hS1
    have hB1 := hB.ag (zbc_ag (σ := σ) (X := X) (o := o) (l := l)) (by decide)
    have hB0 := hB1.1
    have hmm := hmat m hm.1 hm.2
    have hA := hmm.1
    refine x_aload_n C dX5_turn_13 rfl ?_
    refine x_getfield C dX5_turn_14 lfX5_12 hB0 (by omega) rfl ?_
    refine x_getfieldN C dX5_turn_17 nfX5_59 hN0 (by omega) rfl ?_
    refine x_iload_n C dX5_turn_20 rfl ?_
    refine x_aaload3 C dX5_turn_21 hN1 (by omega) rfl ?_
    refine x_callV C dX5_turn_22 (ctX1_transpose hmm) okX1_transpose lkX5_102 ⟨⟨hA, rfl, rfl⟩, (by omega)⟩ ⟨by decide, rfl, rfl, Nat.le_of_ble_eq_true rfl⟩ rfl (Or.inl ⟨rfl, rfl⟩) ?_
    have hS2 := hS1.setM hm (ztp (X.1 m) 16 0) (zfo (fun t d => zts d t) (X.2.1 m) 4)
    obtain ⟨hN0, hN1, hin, hmat⟩ := id hS2
    have hB0 := (hB1.ag (zAg.sM _ (2 + 2 + 3 * m) (ztp (X.1 m) 16 0) (zfo (fun t d => zts d t) (X.2.1 m) 4)) (by omega)).1
    have hmm2 := isM_s hmm (ztp (X.1 m) 16 0) (zfo (fun t d => zts d t) (X.2.1 m) 4)
    have hA := hmm2.1
    refine x_aload_n C dX5_turn_25 rfl ?_
    refine x_getfield C dX5_turn_26 lfX5_12 hB0 (by omega) rfl ?_
    refine x_getfieldN C dX5_turn_29 nfX5_59 hN0 (by omega) rfl ?_
    refine x_iload_n C dX5_turn_32 rfl ?_
    refine x_aaload3 C dX5_turn_33 hN1 (by omega) rfl ?_
    refine x_callV C dX5_turn_34 (ctX1_trace hmm2) okX1_trace lkX5_105 ⟨⟨hA, rfl, rfl⟩, (by omega)⟩ ⟨by decide, rfl, rfl, Nat.le_of_ble_eq_true rfl⟩ rfl (Or.inl ⟨rfl, rfl⟩) ?_
    refine x_ldc (v := 100000000) C dX5_turn_37 kcX5_108 (by decide) ?_
    refine x_iadd C dX5_turn_39 ?_
    exact x_iret (st := []) C dX5_turn_40 rfl ⟨congrArg (fun z => some (zi z)) (by first | rfl | omega), rfl, rfl, rfl⟩
  · exact absurd hm c4
theorem ctX5_clearE (m row col : Int) (hm : -2147483648 ≤ m ∧ m < 2147483648) (hrow : -2147483648 ≤ row ∧ row < 2147483648) (hcol : -2147483648 ≤ col ∧ col < 2147483648) {r : Int} (hE : r = -1 ∧ ¬ ((0 ≤ m ∧ m < 4) ∧ (0 ≤ row ∧ row < 16) ∧ 0 ≤ col ∧ col < 16)) : zCt 6 0 0 yX5_clear cX5_clear 4 (some .int) [zr 1, zi m, zi row, zi col] n σ (some (zi r)) n σ := by
  refine zCt.of (by decide) rfl (Nat.le_of_ble_eq_true rfl) (fun K C => ?_)
  refine x_iload_n C dX5_clear_0 rfl ?_
  refine x_iload_n C dX5_clear_1 rfl ?_
  refine x_iload_n C dX5_clear_2 rfl ?_
  refine x_callS C dX5_clear_3 (ctX5_isPlace m row col hm hrow hcol) okX5_isPlace lkX5_78 ⟨by decide, rfl, rfl, Nat.le_of_ble_eq_true rfl⟩ rfl (Or.inl ⟨rfl, rfl⟩) ?_
  refine x_ifne_d (tgt := 11) C dX5_clear_6 (by decide) (fun c6 => ?_) (fun c6 => ?_)
  · exact absurd c6 hE.2
  · refine x_iconst C dX5_clear_9 ?_
    exact x_iret (st := []) C dX5_clear_10 rfl ⟨congrArg (fun z => some (zi z)) (by first | rfl | omega), rfl, rfl, rfl⟩
theorem ctX5_clear (R : RepC σ n X o l Hs Sl f L) (m row col : Int) (hm : 0 ≤ m ∧ m < 4) (hr : 0 ≤ row ∧ row < 16) (hc : 0 ≤ col ∧ col < 16) : zCt 6 0 0 yX5_clear cX5_clear 4 (some .int) [zr 1, zi m, zi row, zi col] n σ (some (zi (zsz (zdp (X.2.1 m) row col)))) n (sM (zbc σ X o l) (2 + 2 + 3 * m) (zsq (X.1 m) (row / zsz (zdp (X.2.1 m) row col) * zsz (zdp (X.2.1 m) row col)) (col / zsz (zdp (X.2.1 m) row col) * zsz (zdp (X.2.1 m) row col)) (zsz (zdp (X.2.1 m) row col)) (fun _ => 0)) (zu (X.2.1 m) (zno (zdp (X.2.1 m) row col) (row / zsz (zdp (X.2.1 m) row col) * zsz (zdp (X.2.1 m) row col)) (col / zsz (zdp (X.2.1 m) row col) * zsz (zdp (X.2.1 m) row col))) 0)) := by
  obtain ⟨hB, ⟨hS, hok⟩, ⟨hH, -⟩, -⟩ := R
  obtain ⟨hN0, hN1, hin, hmat⟩ := id hS
  have hmm := hmat m hm.1 hm.2
  have hA := hmm.1
  have hB0 := hB.1
  have hn := hB.2
  refine zCt.of (by decide) rfl (Nat.le_of_ble_eq_true rfl) (fun K C => ?_)
  refine x_iload_n C dX5_clear_0 rfl ?_
  refine x_iload_n C dX5_clear_1 rfl ?_
  refine x_iload_n C dX5_clear_2 rfl ?_
  refine x_callS C dX5_clear_3 (ctX5_isPlace m row col (by omega) (by omega) (by omega)) okX5_isPlace lkX5_78 ⟨by decide, rfl, rfl, Nat.le_of_ble_eq_true rfl⟩ rfl (Or.inl ⟨rfl, rfl⟩) ?_
  refine x_ifne_d (tgt := 11) C dX5_clear_6 (by decide) (fun c6 => ?_) (fun c6 => ?_)
  · refine x_aload_n C dX5_clear_11 rfl ?_
    refine x_callV C dX5_clear_12 (ctX5_beginChange hB hH hS) okX5_beginChange lkX5_56 ⟨⟨hB0, rfl, rfl⟩, (by omega)⟩ ⟨by decide, rfl, rfl, Nat.le_of_ble_eq_true rfl⟩ rfl (Or.inl ⟨rfl, rfl⟩) ?_
    obtain ⟨hH1, hS1⟩ := zbc_is hH hS
    obtain ⟨hN0, hN1, hin, hmat⟩ := id hS1
    have hB1 := hB.ag (zbc_ag (σ := σ) (X := X) (o := o) (l := l)) (by decide)
    have hB0 := hB1.1
    have hmm := hmat m hm.1 hm.2
    have hA := hmm.1
    refine x_aload_n C dX5_clear_15 rfl ?_
    refine x_getfield C dX5_clear_16 lfX5_12 hB0 (by omega) rfl ?_
    refine x_getfieldN C dX5_clear_19 nfX5_59 hN0 (by omega) rfl ?_
    refine x_iload_n C dX5_clear_22 rfl ?_
    refine x_aaload3 C dX5_clear_23 hN1 (by omega) rfl ?_
    refine x_iload_n C dX5_clear_24 rfl ?_
    refine x_iload_n C dX5_clear_25 rfl ?_
    refine x_callV C dX5_clear_26 (ctX1_emptyBlockOf hmm (hok.2 m) row col hr hc) okX1_emptyBlockOf lkX5_109 ⟨⟨hA, rfl, rfl⟩, (by omega)⟩ ⟨by decide, rfl, rfl, Nat.le_of_ble_eq_true rfl⟩ rfl (Or.inl ⟨rfl, rfl⟩) ?_
    exact x_iret (st := []) C dX5_clear_29 rfl ⟨congrArg (fun z => some (zi z)) (by first | rfl | omega), rfl, rfl, rfl⟩
  · exact absurd c6 (by omega)
theorem ctX5_copyE (m q : Int) (hm : -2147483648 ≤ m ∧ m < 2147483648) (hq : -2147483648 ≤ q ∧ q < 2147483648) {r : Int} (hE : (r = -1 ∧ ¬ ((0 ≤ m ∧ m < 4) ∧ (0 ≤ q ∧ q < 4))) ∨ (r = -2 ∧ (0 ≤ m ∧ m < 4) ∧ (0 ≤ q ∧ q < 4) ∧ m = q)) : zCt 9 0 0 yX5_copy cX5_copy 3 (some .int) [zr 1, zi m, zi q] n σ (some (zi r)) n σ := by
  refine zCt.of (by decide) rfl (Nat.le_of_ble_eq_true rfl) (fun K C => ?_)
  refine x_iload_n C dX5_copy_0 rfl ?_
  refine x_callS C dX5_copy_1 (ctX5_isMatrix _ (by omega)) okX5_isMatrix lkX5_48 ⟨by decide, rfl, rfl, Nat.le_of_ble_eq_true rfl⟩ rfl (Or.inl ⟨rfl, rfl⟩) ?_
  refine x_ifeq_d (tgt := 14) C dX5_copy_4 (by decide) (fun c4 => ?_) (fun c4 => ?_)
  · refine x_iconst C dX5_copy_14 ?_
    exact x_iret (st := []) C dX5_copy_15 rfl ⟨congrArg (fun z => some (zi z)) (by first | rfl | omega), rfl, rfl, rfl⟩
  · refine x_iload_n C dX5_copy_7 rfl ?_
    refine x_callS C dX5_copy_8 (ctX5_isMatrix _ (by omega)) okX5_isMatrix lkX5_48 ⟨by decide, rfl, rfl, Nat.le_of_ble_eq_true rfl⟩ rfl (Or.inl ⟨rfl, rfl⟩) ?_
    refine x_ifne_d (tgt := 16) C dX5_copy_11 (by decide) (fun c11 => ?_) (fun c11 => ?_)
    · refine x_iload_n C dX5_copy_16 rfl ?_
      refine x_iload_n C dX5_copy_17 rfl ?_
      refine x_icmp_ne (tgt := 24) C dX5_copy_18 (by decide) (by omega) (fun c18 => ?_) (fun c18 => ?_)
      · exact absurd c18 (by omega)
      · refine x_bipush C dX5_copy_21 (by decide) ?_
        exact x_iret (st := []) C dX5_copy_23 rfl ⟨congrArg (fun z => some (zi z)) (by first | rfl | omega), rfl, rfl, rfl⟩
    · refine x_iconst C dX5_copy_14 ?_
      exact x_iret (st := []) C dX5_copy_15 rfl ⟨congrArg (fun z => some (zi z)) (by first | rfl | omega), rfl, rfl, rfl⟩
theorem ctX5_copy (R : RepC σ n X o l Hs Sl f L) (m q : Int) (hm : 0 ≤ m ∧ m < 4) (hq : 0 ≤ q ∧ q < 4) (hne : m ≠ q) : zCt 9 0 0 yX5_copy cX5_copy 3 (some .int) [zr 1, zi m, zi q] n σ (some (zi (zroom (X.2.1 q) 3 0 0))) n (sM (zbc σ X o l) (2 + 2 + 3 * m) (X.1 q) (X.2.1 q)) := by
  obtain ⟨hB, ⟨hS, hok⟩, ⟨hH, -⟩, -⟩ := R
  obtain ⟨hN0, hN1, hin, hmat⟩ := id hS
  have hmm := hmat m hm.1 hm.2
  have hA := hmm.1
  have hqq := hmat q hq.1 hq.2
  have hA2 := hqq.1
  have hB0 := hB.1
  have hn := hB.2
  refine zCt.of (by decide) rfl (Nat.le_of_ble_eq_true rfl) (fun K C => ?_)
  refine x_iload_n C dX5_copy_0 rfl ?_
  refine x_callS C dX5_copy_1 (ctX5_isMatrix _ (by omega)) okX5_isMatrix lkX5_48 ⟨by decide, rfl, rfl, Nat.le_of_ble_eq_true rfl⟩ rfl (Or.inl ⟨rfl, rfl⟩) ?_
  refine x_ifeq_d (tgt := 14) C dX5_copy_4 (by decide) (fun c4 => ?_) (fun c4 => ?_)
  · exact absurd hm c4
  · refine x_iload_n C dX5_copy_7 rfl ?_
    refine x_callS C dX5_copy_8 (ctX5_isMatrix _ (by omega)) okX5_isMatrix lkX5_48 ⟨by decide, rfl, rfl, Nat.le_of_ble_eq_true rfl⟩ rfl (Or.inl ⟨rfl, rfl⟩) ?_
    refine x_ifne_d (tgt := 16) C dX5_copy_11 (by decide) (fun c11 => ?_) (fun c11 => ?_)
    · refine x_iload_n C dX5_copy_16 rfl ?_
      refine x_iload_n C dX5_copy_17 rfl ?_
      refine x_icmp_ne (tgt := 24) C dX5_copy_18 (by decide) (by omega) (fun c18 => ?_) (fun c18 => ?_)
      · refine x_aload_n C dX5_copy_24 rfl ?_
        refine x_callV C dX5_copy_25 (ctX5_beginChange hB hH hS) okX5_beginChange lkX5_56 ⟨⟨hB0, rfl, rfl⟩, (by omega)⟩ ⟨by decide, rfl, rfl, Nat.le_of_ble_eq_true rfl⟩ rfl (Or.inl ⟨rfl, rfl⟩) ?_
        obtain ⟨hH1, hS1⟩ := zbc_is hH hS
        obtain ⟨hN0, hN1, hin, hmat⟩ := id hS1
        have hB1 := hB.ag (zbc_ag (σ := σ) (X := X) (o := o) (l := l)) (by decide)
        have hB0 := hB1.1
        have hmm := hmat m hm.1 hm.2
        have hA := hmm.1
        have hqq := hmat q hq.1 hq.2
        have hA2 := hqq.1
        refine x_aload_n C dX5_copy_28 rfl ?_
        refine x_getfield C dX5_copy_29 lfX5_12 hB0 (by omega) rfl ?_
        refine x_getfieldN C dX5_copy_32 nfX5_59 hN0 (by omega) rfl ?_
        refine x_iload_n C dX5_copy_35 rfl ?_
        refine x_aaload3 C dX5_copy_36 hN1 (by omega) rfl ?_
        refine x_aload_n C dX5_copy_37 rfl ?_
        refine x_getfield C dX5_copy_38 lfX5_12 hB0 (by omega) rfl ?_
        refine x_getfieldN C dX5_copy_41 nfX5_59 hN0 (by omega) rfl ?_
        refine x_iload_n C dX5_copy_44 rfl ?_
        refine x_aaload3 C dX5_copy_45 hN1 (by omega) rfl ?_
        refine x_callV C dX5_copy_46 (ctX1_become2 hmm hqq (by omega)) okX1_become lkX5_66 ⟨⟨hA, rfl, rfl⟩, (by omega)⟩ ⟨by decide, rfl, rfl, Nat.le_of_ble_eq_true rfl⟩ rfl (Or.inl ⟨rfl, rfl⟩) ?_
        have hS2 := hS1.setM hm (X.1 q) (X.2.1 q)
        obtain ⟨hN0, hN1, hin, hmat⟩ := id hS2
        have hB0 := (hB1.ag (zAg.sM _ (2 + 2 + 3 * m) (X.1 q) (X.2.1 q)) (by omega)).1
        have hmm2 := isM_s hmm (X.1 q) (X.2.1 q)
        have hA := hmm2.1
        refine x_aload_n C dX5_copy_49 rfl ?_
        refine x_getfield C dX5_copy_50 lfX5_12 hB0 (by omega) rfl ?_
        refine x_getfieldN C dX5_copy_53 nfX5_59 hN0 (by omega) rfl ?_
        refine x_iload_n C dX5_copy_56 rfl ?_
        refine x_aaload3 C dX5_copy_57 hN1 (by omega) rfl ?_
        refine x_callV C dX5_copy_58 (ctX1_room hmm2 (hok.2 q)) okX1_room lkX5_74 ⟨⟨hA, rfl, rfl⟩, (by omega)⟩ ⟨by decide, rfl, rfl, Nat.le_of_ble_eq_true rfl⟩ rfl (Or.inl ⟨rfl, rfl⟩) ?_
        exact x_iret (st := []) C dX5_copy_61 rfl ⟨congrArg (fun z => some (zi z)) (by first | rfl | omega), rfl, rfl, rfl⟩
      · exact absurd c18 hne
    · exact absurd hq c11
theorem ctX5_addE (m q x : Int) (hm : -2147483648 ≤ m ∧ m < 2147483648) (hq : -2147483648 ≤ q ∧ q < 2147483648) (hx : -2147483648 ≤ x ∧ x < 2147483648) {r : Int} (hE : (r = -1 ∧ ¬ ((0 ≤ m ∧ m < 4) ∧ (0 ≤ q ∧ q < 4))) ∨ (r = -2 ∧ (0 ≤ m ∧ m < 4) ∧ (0 ≤ q ∧ q < 4) ∧ (x = 0 ∨ ¬ (-99 ≤ x ∧ x ≤ 99) ∨ m = q))) : zCt 9 0 0 yX5_add cX5_add 4 (some .int) [zr 1, zi m, zi q, zi x] n σ (some (zi r)) n σ := by
  refine zCt.of (by decide) rfl (Nat.le_of_ble_eq_true rfl) (fun K C => ?_)
  refine x_iload_n C dX5_add_0 rfl ?_
  refine x_callS C dX5_add_1 (ctX5_isMatrix _ (by omega)) okX5_isMatrix lkX5_48 ⟨by decide, rfl, rfl, Nat.le_of_ble_eq_true rfl⟩ rfl (Or.inl ⟨rfl, rfl⟩) ?_
  refine x_ifeq_d (tgt := 14) C dX5_add_4 (by decide) (fun c4 => ?_) (fun c4 => ?_)
  · refine x_iconst C dX5_add_14 ?_
    exact x_iret (st := []) C dX5_add_15 rfl ⟨congrArg (fun z => some (zi z)) (by first | rfl | omega), rfl, rfl, rfl⟩
  · refine x_iload_n C dX5_add_7 rfl ?_
    refine x_callS C dX5_add_8 (ctX5_isMatrix _ (by omega)) okX5_isMatrix lkX5_48 ⟨by decide, rfl, rfl, Nat.le_of_ble_eq_true rfl⟩ rfl (Or.inl ⟨rfl, rfl⟩) ?_
    refine x_ifne_d (tgt := 16) C dX5_add_11 (by decide) (fun c11 => ?_) (fun c11 => ?_)
    · refine x_iload_n C dX5_add_16 rfl ?_
      refine x_if_eq (tgt := 34) C dX5_add_17 (by decide) (by omega) (fun c17 => ?_) (fun c17 => ?_)
      · refine x_bipush C dX5_add_34 (by decide) ?_
        exact x_iret (st := []) C dX5_add_36 rfl ⟨congrArg (fun z => some (zi z)) (by first | rfl | omega), rfl, rfl, rfl⟩
      · refine x_iload_n C dX5_add_20 rfl ?_
        refine x_bipush C dX5_add_21 (by decide) ?_
        refine x_callS C dX5_add_23 (ctX5_isWithin x 99 hx (by decide)) okX5_isWithin lkX5_83 ⟨by decide, rfl, rfl, Nat.le_of_ble_eq_true rfl⟩ rfl (Or.inl ⟨rfl, rfl⟩) ?_
        refine x_ifeq_d (tgt := 34) C dX5_add_26 (by decide) (fun c26 => ?_) (fun c26 => ?_)
        · refine x_bipush C dX5_add_34 (by decide) ?_
          exact x_iret (st := []) C dX5_add_36 rfl ⟨congrArg (fun z => some (zi z)) (by first | rfl | omega), rfl, rfl, rfl⟩
        · refine x_iload_n C dX5_add_29 rfl ?_
          refine x_iload_n C dX5_add_30 rfl ?_
          refine x_icmp_ne (tgt := 37) C dX5_add_31 (by decide) (by omega) (fun c31 => ?_) (fun c31 => ?_)
          · exact absurd c31 (by omega)
          · refine x_bipush C dX5_add_34 (by decide) ?_
            exact x_iret (st := []) C dX5_add_36 rfl ⟨congrArg (fun z => some (zi z)) (by first | rfl | omega), rfl, rfl, rfl⟩
    · refine x_iconst C dX5_add_14 ?_
      exact x_iret (st := []) C dX5_add_15 rfl ⟨congrArg (fun z => some (zi z)) (by first | rfl | omega), rfl, rfl, rfl⟩
theorem ctX5_add (R : RepC σ n X o l Hs Sl f L) (m q x : Int) (hm : 0 ≤ m ∧ m < 4) (hq : 0 ≤ q ∧ q < 4) (hx : -99 ≤ x ∧ x ≤ 99) (hx0 : x ≠ 0) (hne : m ≠ q) : zCt 9 0 0 yX5_add cX5_add 4 (some .int) [zr 1, zi m, zi q, zi x] n σ (some (zi (zroom (zjn (X.1 q) (X.2.1 q) x 3 (X.1 m, X.2.1 m) 0 0).2 3 0 0))) n (sM (zbc σ X o l) (2 + 2 + 3 * m) (zjn (X.1 q) (X.2.1 q) x 3 (X.1 m, X.2.1 m) 0 0).1 (zjn (X.1 q) (X.2.1 q) x 3 (X.1 m, X.2.1 m) 0 0).2) := by
  obtain ⟨hB, ⟨hS, hok⟩, ⟨hH, -⟩, -⟩ := R
  obtain ⟨hN0, hN1, hin, hmat⟩ := id hS
  have hmm := hmat m hm.1 hm.2
  have hA := hmm.1
  have hqq := hmat q hq.1 hq.2
  have hA2 := hqq.1
  have hB0 := hB.1
  have hn := hB.2
  have hokj := zjn_ok (X.1 q) (X.2.1 q) x 3 (X.1 m, X.2.1 m) 0 0 ⟨hok.1 m, hok.2 m⟩
  refine zCt.of (by decide) rfl (Nat.le_of_ble_eq_true rfl) (fun K C => ?_)
  refine x_iload_n C dX5_add_0 rfl ?_
  refine x_callS C dX5_add_1 (ctX5_isMatrix _ (by omega)) okX5_isMatrix lkX5_48 ⟨by decide, rfl, rfl, Nat.le_of_ble_eq_true rfl⟩ rfl (Or.inl ⟨rfl, rfl⟩) ?_
  refine x_ifeq_d (tgt := 14) C dX5_add_4 (by decide) (fun c4 => ?_) (fun c4 => ?_)
  · exact absurd hm c4
  · refine x_iload_n C dX5_add_7 rfl ?_
    refine x_callS C dX5_add_8 (ctX5_isMatrix _ (by omega)) okX5_isMatrix lkX5_48 ⟨by decide, rfl, rfl, Nat.le_of_ble_eq_true rfl⟩ rfl (Or.inl ⟨rfl, rfl⟩) ?_
    refine x_ifne_d (tgt := 16) C dX5_add_11 (by decide) (fun c11 => ?_) (fun c11 => ?_)
    · refine x_iload_n C dX5_add_16 rfl ?_
      refine x_if_eq (tgt := 34) C dX5_add_17 (by decide) (by omega) (fun c17 => ?_) (fun c17 => ?_)
      · exact absurd c17 hx0
      · refine x_iload_n C dX5_add_20 rfl ?_
        refine x_bipush C dX5_add_21 (by decide) ?_
        refine x_callS C dX5_add_23 (ctX5_isWithin x 99 (by omega) (by decide)) okX5_isWithin lkX5_83 ⟨by decide, rfl, rfl, Nat.le_of_ble_eq_true rfl⟩ rfl (Or.inl ⟨rfl, rfl⟩) ?_
        refine x_ifeq_d (tgt := 34) C dX5_add_26 (by decide) (fun c26 => ?_) (fun c26 => ?_)
        · exact absurd hx c26
        · refine x_iload_n C dX5_add_29 rfl ?_
          refine x_iload_n C dX5_add_30 rfl ?_
          refine x_icmp_ne (tgt := 37) C dX5_add_31 (by decide) (by omega) (fun c31 => ?_) (fun c31 => ?_)
          · refine x_aload_n C dX5_add_37 rfl ?_
            refine x_callV C dX5_add_38 (ctX5_beginChange hB hH hS) okX5_beginChange lkX5_56 ⟨⟨hB0, rfl, rfl⟩, (by omega)⟩ ⟨by decide, rfl, rfl, Nat.le_of_ble_eq_true rfl⟩ rfl (Or.inl ⟨rfl, rfl⟩) ?_
            obtain ⟨hH1, hS1⟩ := zbc_is hH hS
            obtain ⟨hN0, hN1, hin, hmat⟩ := id hS1
            have hB1 := hB.ag (zbc_ag (σ := σ) (X := X) (o := o) (l := l)) (by decide)
            have hB0 := hB1.1
            have hmm := hmat m hm.1 hm.2
            have hA := hmm.1
            have hqq := hmat q hq.1 hq.2
            have hA2 := hqq.1
            refine x_aload_n C dX5_add_41 rfl ?_
            refine x_getfield C dX5_add_42 lfX5_12 hB0 (by omega) rfl ?_
            refine x_getfieldN C dX5_add_45 nfX5_59 hN0 (by omega) rfl ?_
            refine x_iload_n C dX5_add_48 rfl ?_
            refine x_aaload3 C dX5_add_49 hN1 (by omega) rfl ?_
            refine x_aload_n C dX5_add_50 rfl ?_
            refine x_getfield C dX5_add_51 lfX5_12 hB0 (by omega) rfl ?_
            refine x_getfieldN C dX5_add_54 nfX5_59 hN0 (by omega) rfl ?_
            refine x_iload_n C dX5_add_57 rfl ?_
            refine x_aaload3 C dX5_add_58 hN1 (by omega) rfl ?_
            refine x_iload_n C dX5_add_59 rfl ?_
            refine x_callV C dX5_add_60 (ctX1_join hmm hqq (by omega) (hok.1 m) (hok.2 m) (hok.1 q) (hok.2 q) hx) okX1_join lkX5_98 ⟨⟨hA, rfl, rfl⟩, (by omega)⟩ ⟨by decide, rfl, rfl, Nat.le_of_ble_eq_true rfl⟩ rfl (Or.inl ⟨rfl, rfl⟩) ?_
            have hS2 := hS1.setM hm (zjn (X.1 q) (X.2.1 q) x 3 (X.1 m, X.2.1 m) 0 0).1 (zjn (X.1 q) (X.2.1 q) x 3 (X.1 m, X.2.1 m) 0 0).2
            obtain ⟨hN0, hN1, hin, hmat⟩ := id hS2
            have hB0 := (hB1.ag (zAg.sM _ (2 + 2 + 3 * m) (zjn (X.1 q) (X.2.1 q) x 3 (X.1 m, X.2.1 m) 0 0).1 (zjn (X.1 q) (X.2.1 q) x 3 (X.1 m, X.2.1 m) 0 0).2) (by omega)).1
            have hmm2 := isM_s hmm (zjn (X.1 q) (X.2.1 q) x 3 (X.1 m, X.2.1 m) 0 0).1 (zjn (X.1 q) (X.2.1 q) x 3 (X.1 m, X.2.1 m) 0 0).2
            have hA := hmm2.1
            refine x_aload_n C dX5_add_63 rfl ?_
            refine x_getfield C dX5_add_64 lfX5_12 hB0 (by omega) rfl ?_
            refine x_getfieldN C dX5_add_67 nfX5_59 hN0 (by omega) rfl ?_
            refine x_iload_n C dX5_add_70 rfl ?_
            refine x_aaload3 C dX5_add_71 hN1 (by omega) rfl ?_
            refine x_callV C dX5_add_72 (ctX1_room hmm2 hokj.2) okX1_room lkX5_74 ⟨⟨hA, rfl, rfl⟩, (by omega)⟩ ⟨by decide, rfl, rfl, Nat.le_of_ble_eq_true rfl⟩ rfl (Or.inl ⟨rfl, rfl⟩) ?_
            exact x_iret (st := []) C dX5_add_75 rfl ⟨congrArg (fun z => some (zi z)) (by first | rfl | omega), rfl, rfl, rfl⟩
          · exact absurd c31 hne
    · exact absurd hq c11
theorem ctX5_atE (m row col : Int) (hm : -2147483648 ≤ m ∧ m < 2147483648) (hrow : -2147483648 ≤ row ∧ row < 2147483648) (hcol : -2147483648 ≤ col ∧ col < 2147483648) {r : Int} (hE : r = -1 ∧ ¬ ((0 ≤ m ∧ m < 4) ∧ (0 ≤ row ∧ row < 16) ∧ 0 ≤ col ∧ col < 16)) : zCt 3 0 0 yX5_at cX5_at 4 (some .int) [zr 1, zi m, zi row, zi col] n σ (some (zi r)) n σ := by
  refine zCt.of (by decide) rfl (Nat.le_of_ble_eq_true rfl) (fun K C => ?_)
  refine x_iload_n C dX5_at_0 rfl ?_
  refine x_iload_n C dX5_at_1 rfl ?_
  refine x_iload_n C dX5_at_2 rfl ?_
  refine x_callS C dX5_at_3 (ctX5_isPlace m row col hm hrow hcol) okX5_isPlace lkX5_78 ⟨by decide, rfl, rfl, Nat.le_of_ble_eq_true rfl⟩ rfl (Or.inl ⟨rfl, rfl⟩) ?_
  refine x_ifne_d (tgt := 11) C dX5_at_6 (by decide) (fun c6 => ?_) (fun c6 => ?_)
  · exact absurd c6 hE.2
  · refine x_iconst C dX5_at_9 ?_
    exact x_iret (st := []) C dX5_at_10 rfl ⟨congrArg (fun z => some (zi z)) (by first | rfl | omega), rfl, rfl, rfl⟩
theorem ctX5_at (R : RepC σ n X o l Hs Sl f L) (m row col : Int) (hm : 0 ≤ m ∧ m < 4) (hr : 0 ≤ row ∧ row < 16) (hc : 0 ≤ col ∧ col < 16) : zCt 3 0 0 yX5_at cX5_at 4 (some .int) [zr 1, zi m, zi row, zi col] n σ (some (zi (X.1 m (row * 16 + col) + 1000000))) n σ := by
  obtain ⟨hB, ⟨hS, hok⟩, ⟨hH, -⟩, -⟩ := R
  obtain ⟨hN0, hN1, hin, hmat⟩ := id hS
  have hmm := hmat m hm.1 hm.2
  have hA := hmm.1
  have hB0 := hB.1
  have hn := hB.2
  refine zCt.of (by decide) rfl (Nat.le_of_ble_eq_true rfl) (fun K C => ?_)
  refine x_iload_n C dX5_at_0 rfl ?_
  refine x_iload_n C dX5_at_1 rfl ?_
  refine x_iload_n C dX5_at_2 rfl ?_
  refine x_callS C dX5_at_3 (ctX5_isPlace m row col (by omega) (by omega) (by omega)) okX5_isPlace lkX5_78 ⟨by decide, rfl, rfl, Nat.le_of_ble_eq_true rfl⟩ rfl (Or.inl ⟨rfl, rfl⟩) ?_
  refine x_ifne_d (tgt := 11) C dX5_at_6 (by decide) (fun c6 => ?_) (fun c6 => ?_)
  · refine x_aload_n C dX5_at_11 rfl ?_
    refine x_getfield C dX5_at_12 lfX5_12 hB0 (by omega) rfl ?_
    refine x_getfieldN C dX5_at_15 nfX5_59 hN0 (by omega) rfl ?_
    refine x_iload_n C dX5_at_18 rfl ?_
    refine x_aaload3 C dX5_at_19 hN1 (by omega) rfl ?_
    refine x_iload_n C dX5_at_20 rfl ?_
    refine x_iload_n C dX5_at_21 rfl ?_
    refine x_callV C dX5_at_22 (ctX1_entryAt hmm row col hr hc) okX1_entryAt lkX5_87 ⟨⟨hA, rfl, rfl⟩, (by omega)⟩ ⟨by decide, rfl, rfl, Nat.le_of_ble_eq_true rfl⟩ rfl (Or.inl ⟨rfl, rfl⟩) ?_
    refine x_ldc (v := 1000000) C dX5_at_25 kcX5_82 (by decide) ?_
    refine x_iadd C dX5_at_27 ?_
    exact x_iret (st := []) C dX5_at_28 rfl ⟨congrArg (fun z => some (zi z)) (by first | rfl | omega), rfl, rfl, rfl⟩
  · exact absurd c6 (by omega)
end
