section
variable {n : Nat} {σ : zS} {X : zSV} {o l : Int} {Hs : Int → zSV} {Sl : Int → zSV × Bool} {f : Int → Int} {L : Int}
theorem ctX5_blockE (m row col w : Int) (hm : -2147483648 ≤ m ∧ m < 2147483648) (hrow : -2147483648 ≤ row ∧ row < 2147483648) (hcol : -2147483648 ≤ col ∧ col < 2147483648) (hw : -2147483648 ≤ w ∧ w < 2147483648) {r : Int} (hE : r = -1 ∧ ¬ ((0 ≤ m ∧ m < 4) ∧ (0 ≤ row ∧ row < 16) ∧ 0 ≤ col ∧ col < 16)) : zCt 5 0 0 yX5_block cX5_block 8 (some .int) [zr 1, zi m, zi row, zi col, zi w] n σ (some (zi r)) n σ := by
  refine zCt.of (by decide) rfl (Nat.le_of_ble_eq_true rfl) (fun K C => ?_)
  refine x_iload_n C dX5_block_0 rfl ?_
  refine x_iload_n C dX5_block_1 rfl ?_
  refine x_iload_n C dX5_block_2 rfl ?_
  refine x_callS C dX5_block_3 (ctX5_isPlace m row col hm hrow hcol) okX5_isPlace lkX5_78 ⟨by decide, rfl, rfl, Nat.le_of_ble_eq_true rfl⟩ rfl (Or.inl ⟨rfl, rfl⟩) ?_
  refine x_ifne_d (tgt := 11) C dX5_block_6 (by decide) (fun c6 => ?_) (fun c6 => ?_)
  · exact absurd c6 hE.2
  · refine x_iconst C dX5_block_9 ?_
    exact x_iret (st := []) C dX5_block_10 rfl ⟨congrArg (fun z => some (zi z)) (by first | rfl | omega), rfl, rfl, rfl⟩
def zbq (t : Int → Int) (row col w : Int) : Int := if w = 0 then t (zno (zdp t row col) row col) else if w = 1 then zsz (zdp t row col) else if w = 2 then row / zsz (zdp t row col) * zsz (zdp t row col) else if w = 3 then col / zsz (zdp t row col) * zsz (zdp t row col) else if w = 4 then zrm (t (zno (zdp t row col) row col)) (zsz (zdp t row col)) else if w = 5 then zdp t row col else -2
theorem ctX5_block (R : RepC σ n X o l Hs Sl f L) (m row col w : Int) (hm : 0 ≤ m ∧ m < 4) (hr : 0 ≤ row ∧ row < 16) (hc : 0 ≤ col ∧ col < 16) (hwi : -2147483648 ≤ w ∧ w < 2147483648) : zCt 5 0 0 yX5_block cX5_block 8 (some .int) [zr 1, zi m, zi row, zi col, zi w] n σ (some (zi (zbq (X.2.1 m) row col w))) n σ := by
  obtain ⟨hB, ⟨hS, hok⟩, ⟨hH, -⟩, -⟩ := R
  obtain ⟨hN0, hN1, hin, hmat⟩ := id hS
  have hmm := hmat m hm.1 hm.2
  have hA := hmm.1
  have hB0 := hB.1
  have hn := hB.2
  have hz := zdp_in (X.2.1 m) row col
  have hst := hok.2 m (zno (zdp (X.2.1 m) row col) row col)
  have h7 : w = 0 ∨ w = 1 ∨ w = 2 ∨ w = 3 ∨ w = 4 ∨ w = 5 ∨ w < 0 ∨ 5 < w := by omega
  refine zCt.of (by decide) rfl (Nat.le_of_ble_eq_true rfl) (fun K C => ?_)
  refine x_iload_n C dX5_block_0 rfl ?_
  refine x_iload_n C dX5_block_1 rfl ?_
  refine x_iload_n C dX5_block_2 rfl ?_
  refine x_callS C dX5_block_3 (ctX5_isPlace m row col (by omega) (by omega) (by omega)) okX5_isPlace lkX5_78 ⟨by decide, rfl, rfl, Nat.le_of_ble_eq_true rfl⟩ rfl (Or.inl ⟨rfl, rfl⟩) ?_
  refine x_ifne_d (tgt := 11) C dX5_block_6 (by decide) (fun c6 => ?_) (fun c6 => ?_)
  · refine x_aload_n C dX5_block_11 rfl ?_
    refine x_getfield C dX5_block_12 lfX5_12 hB0 (by omega) rfl ?_
    refine x_getfieldN C dX5_block_15 nfX5_59 hN0 (by omega) rfl ?_
    refine x_iload_n C dX5_block_18 rfl ?_
    refine x_aaload3 C dX5_block_19 hN1 (by omega) rfl ?_
    refine x_astore C dX5_block_20 (by decide) ?_
    refine x_aload C dX5_block_22 rfl ?_
    refine x_iload_n C dX5_block_24 rfl ?_
    refine x_iload_n C dX5_block_25 rfl ?_
    refine x_callV C dX5_block_26 (ctX1_depthOf hmm (hok.2 m) row col hr hc) okX1_depthOf lkX5_112 ⟨⟨hA, rfl, rfl⟩, (by omega)⟩ ⟨by decide, rfl, rfl, Nat.le_of_ble_eq_true rfl⟩ rfl (Or.inl ⟨rfl, rfl⟩) ?_
    refine x_istore C dX5_block_29 (by decide) ?_
    refine x_iload C dX5_block_31 rfl ?_
    refine x_callS C dX5_block_33 (ctX5_sizeAt _ hz) okX5_sizeAt lkX5_115 ⟨by decide, rfl, rfl, Nat.le_of_ble_eq_true rfl⟩ rfl (Or.inl ⟨rfl, rfl⟩) ?_
    refine x_istore C dX5_block_36 (by decide) ?_
    refine x_iload C dX5_block_38 rfl ?_
    rcases h7 with rfl | rfl | rfl | rfl | rfl | rfl | hw
    · refine x_tableIn (tgt := 80) C dX5_block_40 (by decide) rfl (by decide) ?_
      refine x_aload C dX5_block_80 rfl ?_
      refine x_iload C dX5_block_82 rfl ?_
      refine x_iload_n C dX5_block_84 rfl ?_
      refine x_iload_n C dX5_block_85 rfl ?_
      refine x_callV C dX5_block_86 (ctX1_sortOf hmm _ row col hz hr hc) okX1_sortOf lkX5_119 ⟨⟨hA, rfl, rfl⟩, (by omega)⟩ ⟨by decide, rfl, rfl, Nat.le_of_ble_eq_true rfl⟩ rfl (Or.inl ⟨rfl, rfl⟩) ?_
      exact x_iret (st := []) C dX5_block_89 rfl ⟨congrArg (fun z => some (zi z)) (by first | rfl | omega), rfl, rfl, rfl⟩
    · refine x_tableIn (tgt := 90) C dX5_block_40 (by decide) rfl (by decide) ?_
      refine x_iload C dX5_block_90 rfl ?_
      exact x_iret (st := []) C dX5_block_92 rfl ⟨congrArg (fun z => some (zi z)) (by first | rfl | omega), rfl, rfl, rfl⟩
    · refine x_tableIn (tgt := 93) C dX5_block_40 (by decide) rfl (by decide) ?_
      refine x_iload C dX5_block_93 rfl ?_
      refine x_iload_n C dX5_block_95 rfl ?_
      refine x_callS C dX5_block_96 (ctX5_firstOf _ _ hz (by omega)) okX5_firstOf lkX5_123 ⟨by decide, rfl, rfl, Nat.le_of_ble_eq_true rfl⟩ rfl (Or.inl ⟨rfl, rfl⟩) ?_
      exact x_iret (st := []) C dX5_block_99 rfl ⟨congrArg (fun z => some (zi z)) (by first | rfl | omega), rfl, rfl, rfl⟩
    · refine x_tableIn (tgt := 100) C dX5_block_40 (by decide) rfl (by decide) ?_
      refine x_iload C dX5_block_100 rfl ?_
      refine x_iload_n C dX5_block_102 rfl ?_
      refine x_callS C dX5_block_103 (ctX5_firstOf _ _ hz (by omega)) okX5_firstOf lkX5_123 ⟨by decide, rfl, rfl, Nat.le_of_ble_eq_true rfl⟩ rfl (Or.inl ⟨rfl, rfl⟩) ?_
      exact x_iret (st := []) C dX5_block_106 rfl ⟨congrArg (fun z => some (zi z)) (by first | rfl | omega), rfl, rfl, rfl⟩
    · refine x_tableIn (tgt := 107) C dX5_block_40 (by decide) rfl (by decide) ?_
      refine x_aload C dX5_block_107 rfl ?_
      refine x_iload C dX5_block_109 rfl ?_
      refine x_iload_n C dX5_block_111 rfl ?_
      refine x_iload_n C dX5_block_112 rfl ?_
      refine x_callV C dX5_block_113 (ctX1_sortOf hmm _ row col hz hr hc) okX1_sortOf lkX5_119 ⟨⟨hA, rfl, rfl⟩, (by omega)⟩ ⟨by decide, rfl, rfl, Nat.le_of_ble_eq_true rfl⟩ rfl (Or.inl ⟨rfl, rfl⟩) ?_
      refine x_iload C dX5_block_116 rfl ?_
      refine x_callS C dX5_block_118 (ctX5_roomOfUncut _ _ (by omega)) okX5_roomOfUncut lkX5_126 ⟨by decide, rfl, rfl, Nat.le_of_ble_eq_true rfl⟩ rfl (Or.inl ⟨rfl, rfl⟩) ?_
      exact x_iret (st := []) C dX5_block_121 rfl ⟨congrArg (fun z => some (zi z)) (by first | rfl | omega), rfl, rfl, rfl⟩
    · refine x_tableIn (tgt := 122) C dX5_block_40 (by decide) rfl (by decide) ?_
      refine x_iload C dX5_block_122 rfl ?_
      exact x_iret (st := []) C dX5_block_124 rfl ⟨congrArg (fun z => some (zi z)) (by first | rfl | omega), rfl, rfl, rfl⟩
    · refine x_tableOut (tgt := 125) C dX5_block_40 (by omega) (by decide) ?_
      refine x_bipush C dX5_block_125 (by decide) ?_
      exact x_iret (st := []) C dX5_block_127 rfl ⟨congrArg (fun z => some (zi z)) (by unfold zbq; rw [if_neg (by omega), if_neg (by omega), if_neg (by omega), if_neg (by omega), if_neg (by omega), if_neg (by omega)]), rfl, rfl, rfl⟩
  · exact absurd c6 (by omega)
theorem ctX5_ofE (m w : Int) (hm : -2147483648 ≤ m ∧ m < 2147483648) (hw : -2147483648 ≤ w ∧ w < 2147483648) {r : Int} (hE : r = -1 ∧ ¬ (0 ≤ m ∧ m < 4)) : zCt 9 0 0 yX5_of cX5_of 4 (some .int) [zr 1, zi m, zi w] n σ (some (zi r)) n σ := by
  refine zCt.of (by decide) rfl (Nat.le_of_ble_eq_true rfl) (fun K C => ?_)
  refine x_iload_n C dX5_of_0 rfl ?_
  refine x_callS C dX5_of_1 (ctX5_isMatrix _ (by omega)) okX5_isMatrix lkX5_48 ⟨by decide, rfl, rfl, Nat.le_of_ble_eq_true rfl⟩ rfl (Or.inl ⟨rfl, rfl⟩) ?_
  refine x_ifne_d (tgt := 9) C dX5_of_4 (by decide) (fun c4 => ?_) (fun c4 => ?_)
  · exact absurd c4 hE.2
  · refine x_iconst C dX5_of_7 ?_
    exact x_iret (st := []) C dX5_of_8 rfl ⟨congrArg (fun z => some (zi z)) (by first | rfl | omega), rfl, rfl, rfl⟩
def zofq (e t : Int → Int) (b : Bool) (w : Int) : Int := if w = 0 then zroom t 3 0 0 else if w = 1 then zfo (fun m k => max m (zdp t (k / 16) (k % 16))) 0 256 else if w = 2 then zcnt t 0 3 0 0 else if w = 3 then zcnt t 1 3 0 0 else if w = 4 then zcnt t 2 3 0 0 else if w = 5 then zcnt t 3 3 0 0 else if w = 6 then zsm (fun j => if e j ≠ 0 then 1 else 0) 256 else if w = 7 then zsm (fun k => e (k * 16 + k)) 16 + 100000000 else if w = 8 then zfo (fun m k => max m (e (1 + k))) (e 0) 255 + 1000000 else if w = 9 then zfo (fun m k => min m (e (1 + k))) (e 0) 255 + 1000000 else if w = 10 then zb b else -2
theorem ctX5_of (R : RepC σ n X o l Hs Sl f L) (m w : Int) (hm : 0 ≤ m ∧ m < 4) (hwi : -2147483648 ≤ w ∧ w < 2147483648) {b : Bool} (hb : b = true ↔ ∀ i j : Nat, j < i → i < 16 → X.1 m ((i : Int) * 16 + j) = X.1 m ((j : Int) * 16 + i)) : zCt 9 0 0 yX5_of cX5_of 4 (some .int) [zr 1, zi m, zi w] n σ (some (zi (zofq (X.1 m) (X.2.1 m) b w))) n σ := by
  obtain ⟨hB, ⟨hS, hok⟩, ⟨hH, -⟩, -⟩ := R
  obtain ⟨hN0, hN1, hin, hmat⟩ := id hS
  have hmm := hmat m hm.1 hm.2
  have hA := hmm.1
  have hB0 := hB.1
  have hn := hB.2
  have h7 : w = 0 ∨ w = 1 ∨ w = 2 ∨ w = 3 ∨ w = 4 ∨ w = 5 ∨ w = 6 ∨ w = 7 ∨ w = 8 ∨ w = 9 ∨ w = 10 ∨ w < 0 ∨ 10 < w := by omega
  refine zCt.of (by decide) rfl (Nat.le_of_ble_eq_true rfl) (fun K C => ?_)
  refine x_iload_n C dX5_of_0 rfl ?_
  refine x_callS C dX5_of_1 (ctX5_isMatrix _ (by omega)) okX5_isMatrix lkX5_48 ⟨by decide, rfl, rfl, Nat.le_of_ble_eq_true rfl⟩ rfl (Or.inl ⟨rfl, rfl⟩) ?_
  refine x_ifne_d (tgt := 9) C dX5_of_4 (by decide) (fun c4 => ?_) (fun c4 => ?_)
  · refine x_aload_n C dX5_of_9 rfl ?_
    refine x_getfield C dX5_of_10 lfX5_12 hB0 (by omega) rfl ?_
    refine x_getfieldN C dX5_of_13 nfX5_59 hN0 (by omega) rfl ?_
    refine x_iload_n C dX5_of_16 rfl ?_
    refine x_aaload3 C dX5_of_17 hN1 (by omega) rfl ?_
    refine x_astore_n C dX5_of_18 (by decide) ?_
    refine x_iload_n C dX5_of_19 rfl ?_
    rcases h7 with rfl | rfl | rfl | rfl | rfl | rfl | rfl | rfl | rfl | rfl | rfl | hw
    · refine x_tableIn (tgt := 80) C dX5_of_20 (by decide) rfl (by decide) ?_
      refine x_aload_n C dX5_of_80 rfl ?_
      refine x_callV C dX5_of_81 (ctX1_room hmm (hok.2 m)) okX1_room lkX5_74 ⟨⟨hA, rfl, rfl⟩, (by omega)⟩ ⟨by decide, rfl, rfl, Nat.le_of_ble_eq_true rfl⟩ rfl (Or.inl ⟨rfl, rfl⟩) ?_
      exact x_iret (st := []) C dX5_of_84 rfl ⟨congrArg (fun z => some (zi z)) (by first | rfl | omega), rfl, rfl, rfl⟩
    · refine x_tableIn (tgt := 85) C dX5_of_20 (by decide) rfl (by decide) ?_
      refine x_aload_n C dX5_of_85 rfl ?_
      refine x_callV C dX5_of_86 (ctX1_deepest hmm (hok.2 m)) okX1_deepest lkX5_129 ⟨⟨hA, rfl, rfl⟩, (by omega)⟩ ⟨by decide, rfl, rfl, Nat.le_of_ble_eq_true rfl⟩ rfl (Or.inl ⟨rfl, rfl⟩) ?_
      exact x_iret (st := []) C dX5_of_89 rfl ⟨congrArg (fun z => some (zi z)) (by first | rfl | omega), rfl, rfl, rfl⟩
    · refine x_tableIn (tgt := 90) C dX5_of_20 (by decide) rfl (by decide) ?_
      refine x_aload_n C dX5_of_90 rfl ?_
      refine x_iconst C dX5_of_91 ?_
      refine x_callV C dX5_of_92 (ctX1_blocksOf hmm (hok.2 m) (by decide)) okX1_blocksOf lkX5_132 ⟨⟨hA, rfl, rfl⟩, (by omega)⟩ ⟨by decide, rfl, rfl, Nat.le_of_ble_eq_true rfl⟩ rfl (Or.inl ⟨rfl, rfl⟩) ?_
      exact x_iret (st := []) C dX5_of_95 rfl ⟨congrArg (fun z => some (zi z)) (by first | rfl | omega), rfl, rfl, rfl⟩
    · refine x_tableIn (tgt := 96) C dX5_of_20 (by decide) rfl (by decide) ?_
      refine x_aload_n C dX5_of_96 rfl ?_
      refine x_iconst C dX5_of_97 ?_
      refine x_callV C dX5_of_98 (ctX1_blocksOf hmm (hok.2 m) (by decide)) okX1_blocksOf lkX5_132 ⟨⟨hA, rfl, rfl⟩, (by omega)⟩ ⟨by decide, rfl, rfl, Nat.le_of_ble_eq_true rfl⟩ rfl (Or.inl ⟨rfl, rfl⟩) ?_
      exact x_iret (st := []) C dX5_of_101 rfl ⟨congrArg (fun z => some (zi z)) (by first | rfl | omega), rfl, rfl, rfl⟩
    · refine x_tableIn (tgt := 102) C dX5_of_20 (by decide) rfl (by decide) ?_
      refine x_aload_n C dX5_of_102 rfl ?_
      refine x_iconst C dX5_of_103 ?_
      refine x_callV C dX5_of_104 (ctX1_blocksOf hmm (hok.2 m) (by decide)) okX1_blocksOf lkX5_132 ⟨⟨hA, rfl, rfl⟩, (by omega)⟩ ⟨by decide, rfl, rfl, Nat.le_of_ble_eq_true rfl⟩ rfl (Or.inl ⟨rfl, rfl⟩) ?_
      exact x_iret (st := []) C dX5_of_107 rfl ⟨congrArg (fun z => some (zi z)) (by first | rfl | omega), rfl, rfl, rfl⟩
    · refine x_tableIn (tgt := 108) C dX5_of_20 (by decide) rfl (by decide) ?_
      refine x_aload_n C dX5_of_108 rfl ?_
      refine x_iconst C dX5_of_109 ?_
      refine x_callV C dX5_of_110 (ctX1_blocksOf hmm (hok.2 m) (by decide)) okX1_blocksOf lkX5_132 ⟨⟨hA, rfl, rfl⟩, (by omega)⟩ ⟨by decide, rfl, rfl, Nat.le_of_ble_eq_true rfl⟩ rfl (Or.inl ⟨rfl, rfl⟩) ?_
      exact x_iret (st := []) C dX5_of_113 rfl ⟨congrArg (fun z => some (zi z)) (by first | rfl | omega), rfl, rfl, rfl⟩
    · refine x_tableIn (tgt := 114) C dX5_of_20 (by decide) rfl (by decide) ?_
      refine x_aload_n C dX5_of_114 rfl ?_
      refine x_callV C dX5_of_115 (ctX1_filledEntries hmm (hok.1 m)) okX1_filledEntries lkX5_135 ⟨⟨hA, rfl, rfl⟩, (by omega)⟩ ⟨by decide, rfl, rfl, Nat.le_of_ble_eq_true rfl⟩ rfl (Or.inl ⟨rfl, rfl⟩) ?_
      exact x_iret (st := []) C dX5_of_118 rfl ⟨congrArg (fun z => some (zi z)) (by first | rfl | omega), rfl, rfl, rfl⟩
    · refine x_tableIn (tgt := 119) C dX5_of_20 (by decide) rfl (by decide) ?_
      refine x_aload_n C dX5_of_119 rfl ?_
      refine x_callV C dX5_of_120 (ctX1_trace hmm) okX1_trace lkX5_105 ⟨⟨hA, rfl, rfl⟩, (by omega)⟩ ⟨by decide, rfl, rfl, Nat.le_of_ble_eq_true rfl⟩ rfl (Or.inl ⟨rfl, rfl⟩) ?_
      refine x_ldc (v := 100000000) C dX5_of_123 kcX5_108 (by decide) ?_
      refine x_iadd C dX5_of_125 ?_
      exact x_iret (st := []) C dX5_of_126 rfl ⟨congrArg (fun z => some (zi z)) (by first | rfl | omega), rfl, rfl, rfl⟩
    · refine x_tableIn (tgt := 127) C dX5_of_20 (by decide) rfl (by decide) ?_
      refine x_aload_n C dX5_of_127 rfl ?_
      refine x_callV C dX5_of_128 (ctX1_greatest hmm (hok.1 m)) okX1_greatest lkX5_138 ⟨⟨hA, rfl, rfl⟩, (by omega)⟩ ⟨by decide, rfl, rfl, Nat.le_of_ble_eq_true rfl⟩ rfl (Or.inl ⟨rfl, rfl⟩) ?_
      refine x_ldc (v := 1000000) C dX5_of_131 kcX5_82 (by decide) ?_
      refine x_iadd C dX5_of_133 ?_
      exact x_iret (st := []) C dX5_of_134 rfl ⟨congrArg (fun z => some (zi z)) (by first | rfl | omega), rfl, rfl, rfl⟩
    · refine x_tableIn (tgt := 135) C dX5_of_20 (by decide) rfl (by decide) ?_
      refine x_aload_n C dX5_of_135 rfl ?_
      refine x_callV C dX5_of_136 (ctX1_least hmm (hok.1 m)) okX1_least lkX5_141 ⟨⟨hA, rfl, rfl⟩, (by omega)⟩ ⟨by decide, rfl, rfl, Nat.le_of_ble_eq_true rfl⟩ rfl (Or.inl ⟨rfl, rfl⟩) ?_
      refine x_ldc (v := 1000000) C dX5_of_139 kcX5_82 (by decide) ?_
      refine x_iadd C dX5_of_141 ?_
      exact x_iret (st := []) C dX5_of_142 rfl ⟨congrArg (fun z => some (zi z)) (by first | rfl | omega), rfl, rfl, rfl⟩
    · refine x_tableIn (tgt := 143) C dX5_of_20 (by decide) rfl (by decide) ?_
      refine x_aload_n C dX5_of_143 rfl ?_
      refine x_callV C dX5_of_144 (ctX1_isItsTurned hmm (hok.1 m) hb) okX1_isItsTurned lkX5_144 ⟨⟨hA, rfl, rfl⟩, (by omega)⟩ ⟨by decide, rfl, rfl, Nat.le_of_ble_eq_true rfl⟩ rfl (Or.inl ⟨rfl, rfl⟩) ?_
      refine x_ifeq_b (tgt := 154) C dX5_of_147 (by decide) (fun c147 => ?_) (fun c147 => ?_)
      · refine x_iconst C dX5_of_154 ?_
        exact x_iret (st := []) C dX5_of_155 rfl ⟨congrArg (fun z => some (zi z)) (by show _ = zb b; rw [c147]; rfl), rfl, rfl, rfl⟩
      · refine x_iconst C dX5_of_150 ?_
        refine x_goto (tgt := 155) C dX5_of_151 (by decide) ?_
        exact x_iret (st := []) C dX5_of_155 rfl ⟨congrArg (fun z => some (zi z)) (by show _ = zb b; rw [c147]; rfl), rfl, rfl, rfl⟩
    · refine x_tableOut (tgt := 156) C dX5_of_20 (by omega) (by decide) ?_
      refine x_bipush C dX5_of_156 (by decide) ?_
      exact x_iret (st := []) C dX5_of_158 rfl ⟨congrArg (fun z => some (zi z)) (by unfold zofq; repeat rw [if_neg (by omega)]), rfl, rfl, rfl⟩
  · exact absurd hm c4
def zcoq (X : zSV) (L l w : Int) : Int := if w = 0 then zsm (fun m => zroom (X.2.1 m) 3 0 0) 4 else if w = 1 then zempt X.2.1 4 else if w = 2 then X.2.2 else if w = 3 then L else if w = 4 then l else -2
theorem ctX5_count (R : RepC σ n X o l Hs Sl f L) (w : Int) (hwi : -2147483648 ≤ w ∧ w < 2147483648) : zCt 10 0 0 yX5_count cX5_count 2 (some .int) [zr 1, zi w] n σ (some (zi (zcoq X L l w))) n σ := by
  obtain ⟨hB, ⟨hS, hok⟩, ⟨hH, -⟩, -, ⟨p, x, te, tt, u, v, w2, hP⟩, -⟩ := R
  have hN0 := hS.1
  have hH0 := hH.1
  have hP0 := hP.1
  have hB0 := hB.1
  have hn := hB.2
  have h7 : w = 0 ∨ w = 1 ∨ w = 2 ∨ w = 3 ∨ w = 4 ∨ w < 0 ∨ 4 < w := by omega
  refine zCt.of (by decide) rfl (Nat.le_of_ble_eq_true rfl) (fun K C => ?_)
  refine x_iload_n C dX5_count_0 rfl ?_
  rcases h7 with rfl | rfl | rfl | rfl | rfl | hw
  · refine x_tableIn (tgt := 36) C dX5_count_1 (by decide) rfl (by decide) ?_
    refine x_aload_n C dX5_count_36 rfl ?_
    refine x_getfield C dX5_count_37 lfX5_12 hB0 (by omega) rfl ?_
    refine x_callV C dX5_count_40 (ctX4_room hS hok) okX4_room lkX5_156 ⟨⟨hN0, rfl, rfl⟩, (by omega)⟩ ⟨by decide, rfl, rfl, Nat.le_of_ble_eq_true rfl⟩ rfl (Or.inl ⟨rfl, rfl⟩) ?_
    exact x_iret (st := []) C dX5_count_43 rfl ⟨congrArg (fun z => some (zi z)) (by first | rfl | omega), rfl, rfl, rfl⟩
  · refine x_tableIn (tgt := 44) C dX5_count_1 (by decide) rfl (by decide) ?_
    refine x_aload_n C dX5_count_44 rfl ?_
    refine x_getfield C dX5_count_45 lfX5_12 hB0 (by omega) rfl ?_
    refine x_callV C dX5_count_48 (ctX4_emptyOnes hS hok) okX4_emptyOnes lkX5_157 ⟨⟨hN0, rfl, rfl⟩, (by omega)⟩ ⟨by decide, rfl, rfl, Nat.le_of_ble_eq_true rfl⟩ rfl (Or.inl ⟨rfl, rfl⟩) ?_
    exact x_iret (st := []) C dX5_count_51 rfl ⟨congrArg (fun z => some (zi z)) (by first | rfl | omega), rfl, rfl, rfl⟩
  · refine x_tableIn (tgt := 52) C dX5_count_1 (by decide) rfl (by decide) ?_
    refine x_aload_n C dX5_count_52 rfl ?_
    refine x_getfield C dX5_count_53 lfX5_12 hB0 (by omega) rfl ?_
    refine x_getfieldN C dX5_count_56 nfX5_160 hN0 (by omega) rfl ?_
    exact x_iret (st := []) C dX5_count_59 rfl ⟨congrArg (fun z => some (zi z)) (by first | rfl | omega), rfl, rfl, rfl⟩
  · refine x_tableIn (tgt := 60) C dX5_count_1 (by decide) rfl (by decide) ?_
    refine x_aload_n C dX5_count_60 rfl ?_
    refine x_getfield C dX5_count_61 lfX5_32 hB0 (by omega) rfl ?_
    refine x_getfieldN C dX5_count_64 nfX5_70 hP0 (by omega) rfl ?_
    exact x_iret (st := []) C dX5_count_67 rfl ⟨congrArg (fun z => some (zi z)) (by first | rfl | omega), rfl, rfl, rfl⟩
  · refine x_tableIn (tgt := 68) C dX5_count_1 (by decide) rfl (by decide) ?_
    refine x_aload_n C dX5_count_68 rfl ?_
    refine x_getfield C dX5_count_69 lfX5_19 hB0 (by omega) rfl ?_
    refine x_getfieldN C dX5_count_72 nfX5_163 hH0 (by omega) rfl ?_
    exact x_iret (st := []) C dX5_count_75 rfl ⟨congrArg (fun z => some (zi z)) (by first | rfl | omega), rfl, rfl, rfl⟩
  · refine x_tableOut (tgt := 76) C dX5_count_1 (by omega) (by decide) ?_
    refine x_bipush C dX5_count_76 (by decide) ?_
    exact x_iret (st := []) C dX5_count_78 rfl ⟨congrArg (fun z => some (zi z)) (by unfold zcoq; repeat rw [if_neg (by omega)]), rfl, rfl, rfl⟩
theorem ctX5_wouldTakeE (m : Int) (hm : -2147483648 ≤ m ∧ m < 2147483648) {r : Int} (hE : r = -1 ∧ ¬ (0 ≤ m ∧ m < 4)) : zCt 12 0 0 yX5_wouldTake cX5_wouldTake 2 (some .int) [zr 1, zi m] n σ (some (zi r)) n σ := by
  refine zCt.of (by decide) rfl (Nat.le_of_ble_eq_true rfl) (fun K C => ?_)
  refine x_iload_n C dX5_wouldTake_0 rfl ?_
  refine x_callS C dX5_wouldTake_1 (ctX5_isMatrix _ (by omega)) okX5_isMatrix lkX5_48 ⟨by decide, rfl, rfl, Nat.le_of_ble_eq_true rfl⟩ rfl (Or.inl ⟨rfl, rfl⟩) ?_
  refine x_ifne_d (tgt := 9) C dX5_wouldTake_4 (by decide) (fun c4 => ?_) (fun c4 => ?_)
  · exact absurd c4 hE.2
  · refine x_iconst C dX5_wouldTake_7 ?_
    exact x_iret (st := []) C dX5_wouldTake_8 rfl ⟨congrArg (fun z => some (zi z)) (by first | rfl | omega), rfl, rfl, rfl⟩
theorem ctX5_wouldTake (R : RepC σ n X o l Hs Sl f L) (m : Int) (hm : 0 ≤ m ∧ m < 4) : zCt 12 0 0 yX5_wouldTake cX5_wouldTake 2 (some .int) [zr 1, zi m] n σ (some (zi (zshr (X.1 m) 3 (X.2.1 m) 0 0).2)) n (sM σ 111 (X.1 m) (zshr (X.1 m) 3 (X.2.1 m) 0 0).1) := by
  obtain ⟨hB, ⟨hS, hok⟩, -, -, -, ⟨de, dt, hD⟩, -⟩ := R
  obtain ⟨hN0, hN1, hin, hmat⟩ := id hS
  have hD0 := hD.1
  have hmm := hmat m hm.1 hm.2
  have hA := hmm.1
  have hB0 := hB.1
  have hn := hB.2
  refine zCt.of (by decide) rfl (Nat.le_of_ble_eq_true rfl) (fun K C => ?_)
  refine x_iload_n C dX5_wouldTake_0 rfl ?_
  refine x_callS C dX5_wouldTake_1 (ctX5_isMatrix _ (by omega)) okX5_isMatrix lkX5_48 ⟨by decide, rfl, rfl, Nat.le_of_ble_eq_true rfl⟩ rfl (Or.inl ⟨rfl, rfl⟩) ?_
  refine x_ifne_d (tgt := 9) C dX5_wouldTake_4 (by decide) (fun c4 => ?_) (fun c4 => ?_)
  · refine x_aload_n C dX5_wouldTake_9 rfl ?_
    refine x_getfield C dX5_wouldTake_10 lfX5_39 hB0 (by omega) rfl ?_
    refine x_aload_n C dX5_wouldTake_13 rfl ?_
    refine x_getfield C dX5_wouldTake_14 lfX5_12 hB0 (by omega) rfl ?_
    refine x_getfieldN C dX5_wouldTake_17 nfX5_59 hN0 (by omega) rfl ?_
    refine x_iload_n C dX5_wouldTake_20 rfl ?_
    refine x_aaload3 C dX5_wouldTake_21 hN1 (by omega) rfl ?_
    refine x_callV C dX5_wouldTake_22 (ctX1_become2 hD hmm (by omega)) okX1_become lkX5_66 ⟨⟨hD0, rfl, rfl⟩, (by omega)⟩ ⟨by decide, rfl, rfl, Nat.le_of_ble_eq_true rfl⟩ rfl (Or.inl ⟨rfl, rfl⟩) ?_
    have hD1 := isM_s hD (X.1 m) (X.2.1 m)
    have hD0 := hD1.1
    have hB0 := (sM_o σ (h := 111) (k := 1) (X.1 m) (X.2.1 m) (by decide)).trans hB0
    refine x_aload_n C dX5_wouldTake_25 rfl ?_
    refine x_getfield C dX5_wouldTake_26 lfX5_39 hB0 (by omega) rfl ?_
    refine x_callV C dX5_wouldTake_29 (ctX1_makeSmaller hD1 (hok.1 m) (hok.2 m)) okX1_makeSmaller lkX5_95 ⟨⟨hD0, rfl, rfl⟩, (by omega)⟩ ⟨by decide, rfl, rfl, Nat.le_of_ble_eq_true rfl⟩ rfl (Or.inl ⟨rfl, rfl⟩) ?_
    rw [sM_sM]
    exact x_iret (st := []) C dX5_wouldTake_32 rfl ⟨congrArg (fun z => some (zi z)) (by first | rfl | omega), rfl, rfl, rfl⟩
  · exact absurd hm c4
end
