section
variable {n : Nat} {σ : zS} {S : Int → Int} {um L p lv br bc : Int} {wl : Bool}
theorem ctX6_entryE (hM : σ 145 = zMO um L p wl lv br bc) (hn : 155 ≤ n) (m row col v : Int) (hm : -2147483648 ≤ m ∧ m < 2147483648) (hrow : -2147483648 ≤ row ∧ row < 2147483648) (hcol : -2147483648 ≤ col ∧ col < 2147483648) (hv : -2147483648 ≤ v ∧ v < 2147483648) {r : Int} (hE : (r = -1 ∧ ¬ ((0 ≤ m ∧ m < 4) ∧ (0 ≤ row ∧ row < 16) ∧ 0 ≤ col ∧ col < 16)) ∨ (r = -2 ∧ ((0 ≤ m ∧ m < 4) ∧ (0 ≤ row ∧ row < 16) ∧ 0 ≤ col ∧ col < 16) ∧ ¬ (-1000000 ≤ v ∧ v ≤ 1000000))) : zCt 13 0 0 yX6_entry cX6_entry 6 (some .int) [zr 145, zi m, zi row, zi col, zi v] n σ (some (zi r)) n σ := by
  refine zCt.of (by decide) rfl (Nat.le_of_ble_eq_true rfl) (fun K C => ?_)
  refine x_aload_n C dX6_entry_0 rfl ?_
  refine x_iconst C dX6_entry_1 ?_
  refine x_putI C dX6_entry_2 lfX6_41 lyX6_0 hM (by omega) (Nat.le_of_ble_eq_true rfl) ?_
  refine x_nm (fun s2 e2 => ?_)
  rw [show s2 = σ from e2.trans (zsu_self hM)]
  clear e2 s2
  refine x_iload_n C dX6_entry_5 rfl ?_
  refine x_callS C dX6_entry_6 (ctX6_isMatrix _ (by omega)) okX6_isMatrix lkX6_104 ⟨by decide, rfl, rfl, Nat.le_of_ble_eq_true rfl⟩ rfl (Or.inl ⟨rfl, rfl⟩) ?_
  refine x_ifeq_d (tgt := 20) C dX6_entry_9 (by decide) (fun c9 => ?_) (fun c9 => ?_)
  · refine x_iconst C dX6_entry_20 ?_
    exact x_iret (st := []) C dX6_entry_21 rfl ⟨congrArg (fun z => some (zi z)) (by first | rfl | omega), rfl, rfl, rfl⟩
  · refine x_iload_n C dX6_entry_12 rfl ?_
    refine x_iload_n C dX6_entry_13 rfl ?_
    refine x_callS C dX6_entry_14 (ctX6_isPlace _ _ (by omega) (by omega)) okX6_isPlace lkX6_118 ⟨by decide, rfl, rfl, Nat.le_of_ble_eq_true rfl⟩ rfl (Or.inl ⟨rfl, rfl⟩) ?_
    refine x_ifne_d (tgt := 22) C dX6_entry_17 (by decide) (fun c17 => ?_) (fun c17 => ?_)
    · refine x_iload C dX6_entry_22 rfl ?_
      refine x_ldc (v := -1000000) C dX6_entry_24 kcX6_122 (by decide) ?_
      refine x_ldc (v := 1000000) C dX6_entry_26 kcX6_123 (by decide) ?_
      refine x_callS C dX6_entry_28 (ctX6_in _ _ _ (by omega) (by omega) (by omega)) okX6_in lkX6_45 ⟨by decide, rfl, rfl, Nat.le_of_ble_eq_true rfl⟩ rfl (Or.inl ⟨rfl, rfl⟩) ?_
      refine x_ifne_d (tgt := 37) C dX6_entry_31 (by decide) (fun c31 => ?_) (fun c31 => ?_)
      · exfalso; omega
      · refine x_bipush C dX6_entry_34 (by decide) ?_
        exact x_iret (st := []) C dX6_entry_36 rfl ⟨congrArg (fun z => some (zi z)) (by first | rfl | omega), rfl, rfl, rfl⟩
    · refine x_iconst C dX6_entry_20 ?_
      exact x_iret (st := []) C dX6_entry_21 rfl ⟨congrArg (fun z => some (zi z)) (by first | rfl | omega), rfl, rfl, rfl⟩
theorem ctX6_shrinkE (hM : σ 145 = zMO um L p wl lv br bc) (hn : 155 ≤ n) (m : Int) (hm : -2147483648 ≤ m ∧ m < 2147483648) {r : Int} (hE : r = -1 ∧ ¬ (0 ≤ m ∧ m < 4)) : zCt 13 0 0 yX6_shrink cX6_shrink 3 (some .int) [zr 145, zi m] n σ (some (zi r)) n σ := by
  refine zCt.of (by decide) rfl (Nat.le_of_ble_eq_true rfl) (fun K C => ?_)
  refine x_aload_n C dX6_shrink_0 rfl ?_
  refine x_iconst C dX6_shrink_1 ?_
  refine x_putI C dX6_shrink_2 lfX6_41 lyX6_0 hM (by omega) (Nat.le_of_ble_eq_true rfl) ?_
  refine x_nm (fun s2 e2 => ?_)
  rw [show s2 = σ from e2.trans (zsu_self hM)]
  clear e2 s2
  refine x_iload_n C dX6_shrink_5 rfl ?_
  refine x_callS C dX6_shrink_6 (ctX6_isMatrix _ (by omega)) okX6_isMatrix lkX6_104 ⟨by decide, rfl, rfl, Nat.le_of_ble_eq_true rfl⟩ rfl (Or.inl ⟨rfl, rfl⟩) ?_
  refine x_ifne_d (tgt := 14) C dX6_shrink_9 (by decide) (fun c9 => ?_) (fun c9 => ?_)
  · exfalso; omega
  · refine x_iconst C dX6_shrink_12 ?_
    exact x_iret (st := []) C dX6_shrink_13 rfl ⟨congrArg (fun z => some (zi z)) (by first | rfl | omega), rfl, rfl, rfl⟩
theorem ctX6_addE (hM : σ 145 = zMO um L p wl lv br bc) (hn : 155 ≤ n) (m q x : Int) (hm : -2147483648 ≤ m ∧ m < 2147483648) (hq : -2147483648 ≤ q ∧ q < 2147483648) (hx : -2147483648 ≤ x ∧ x < 2147483648) {r : Int} (hE : (r = -1 ∧ ¬ ((0 ≤ m ∧ m < 4) ∧ (0 ≤ q ∧ q < 4))) ∨ (r = -2 ∧ (0 ≤ m ∧ m < 4) ∧ (0 ≤ q ∧ q < 4) ∧ (x = 0 ∨ ¬ (-99 ≤ x ∧ x ≤ 99) ∨ m = q))) : zCt 13 0 0 yX6_add cX6_add 7 (some .int) [zr 145, zi m, zi q, zi x] n σ (some (zi r)) n σ := by
  refine zCt.of (by decide) rfl (Nat.le_of_ble_eq_true rfl) (fun K C => ?_)
  refine x_aload_n C dX6_add_0 rfl ?_
  refine x_iconst C dX6_add_1 ?_
  refine x_putI C dX6_add_2 lfX6_41 lyX6_0 hM (by omega) (Nat.le_of_ble_eq_true rfl) ?_
  refine x_nm (fun s2 e2 => ?_)
  rw [show s2 = σ from e2.trans (zsu_self hM)]
  clear e2 s2
  refine x_iload_n C dX6_add_5 rfl ?_
  refine x_callS C dX6_add_6 (ctX6_isMatrix _ (by omega)) okX6_isMatrix lkX6_104 ⟨by decide, rfl, rfl, Nat.le_of_ble_eq_true rfl⟩ rfl (Or.inl ⟨rfl, rfl⟩) ?_
  refine x_ifeq_d (tgt := 19) C dX6_add_9 (by decide) (fun c9 => ?_) (fun c9 => ?_)
  · refine x_iconst C dX6_add_19 ?_
    exact x_iret (st := []) C dX6_add_20 rfl ⟨congrArg (fun z => some (zi z)) (by first | rfl | omega), rfl, rfl, rfl⟩
  · refine x_iload_n C dX6_add_12 rfl ?_
    refine x_callS C dX6_add_13 (ctX6_isMatrix _ (by omega)) okX6_isMatrix lkX6_104 ⟨by decide, rfl, rfl, Nat.le_of_ble_eq_true rfl⟩ rfl (Or.inl ⟨rfl, rfl⟩) ?_
    refine x_ifne_d (tgt := 21) C dX6_add_16 (by decide) (fun c16 => ?_) (fun c16 => ?_)
    · refine x_iload_n C dX6_add_21 rfl ?_
      refine x_bipush C dX6_add_22 (by decide) ?_
      refine x_bipush C dX6_add_24 (by decide) ?_
      refine x_callS C dX6_add_26 (ctX6_in _ _ _ (by omega) (by omega) (by omega)) okX6_in lkX6_45 ⟨by decide, rfl, rfl, Nat.le_of_ble_eq_true rfl⟩ rfl (Or.inl ⟨rfl, rfl⟩) ?_
      refine x_ifeq_d (tgt := 41) C dX6_add_29 (by decide) (fun c29 => ?_) (fun c29 => ?_)
      · refine x_bipush C dX6_add_41 (by decide) ?_
        exact x_iret (st := []) C dX6_add_43 rfl ⟨congrArg (fun z => some (zi z)) (by first | rfl | omega), rfl, rfl, rfl⟩
      · refine x_iload_n C dX6_add_32 rfl ?_
        refine x_if_eq (tgt := 41) C dX6_add_33 (by decide) (by omega) (fun c33 => ?_) (fun c33 => ?_)
        · refine x_bipush C dX6_add_41 (by decide) ?_
          exact x_iret (st := []) C dX6_add_43 rfl ⟨congrArg (fun z => some (zi z)) (by first | rfl | omega), rfl, rfl, rfl⟩
        · refine x_iload_n C dX6_add_36 rfl ?_
          refine x_iload_n C dX6_add_37 rfl ?_
          refine x_icmp_ne (tgt := 44) C dX6_add_38 (by decide) (by omega) (fun c38 => ?_) (fun c38 => ?_)
          · exfalso; omega
          · refine x_bipush C dX6_add_41 (by decide) ?_
            exact x_iret (st := []) C dX6_add_43 rfl ⟨congrArg (fun z => some (zi z)) (by first | rfl | omega), rfl, rfl, rfl⟩
    · refine x_iconst C dX6_add_19 ?_
      exact x_iret (st := []) C dX6_add_20 rfl ⟨congrArg (fun z => some (zi z)) (by first | rfl | omega), rfl, rfl, rfl⟩
theorem ctX6_turnE (hM : σ 145 = zMO um L p wl lv br bc) (hn : 155 ≤ n) (m : Int) (hm : -2147483648 ≤ m ∧ m < 2147483648) {r : Int} (hE : r = -1 ∧ ¬ (0 ≤ m ∧ m < 4)) : zCt 13 0 0 yX6_turn cX6_turn 5 (some .int) [zr 145, zi m] n σ (some (zi r)) n σ := by
  refine zCt.of (by decide) rfl (Nat.le_of_ble_eq_true rfl) (fun K C => ?_)
  refine x_aload_n C dX6_turn_0 rfl ?_
  refine x_iconst C dX6_turn_1 ?_
  refine x_putI C dX6_turn_2 lfX6_41 lyX6_0 hM (by omega) (Nat.le_of_ble_eq_true rfl) ?_
  refine x_nm (fun s2 e2 => ?_)
  rw [show s2 = σ from e2.trans (zsu_self hM)]
  clear e2 s2
  refine x_iload_n C dX6_turn_5 rfl ?_
  refine x_callS C dX6_turn_6 (ctX6_isMatrix _ (by omega)) okX6_isMatrix lkX6_104 ⟨by decide, rfl, rfl, Nat.le_of_ble_eq_true rfl⟩ rfl (Or.inl ⟨rfl, rfl⟩) ?_
  refine x_ifne_d (tgt := 14) C dX6_turn_9 (by decide) (fun c9 => ?_) (fun c9 => ?_)
  · exfalso; omega
  · refine x_iconst C dX6_turn_12 ?_
    exact x_iret (st := []) C dX6_turn_13 rfl ⟨congrArg (fun z => some (zi z)) (by first | rfl | omega), rfl, rfl, rfl⟩
theorem ctX6_copyE (hM : σ 145 = zMO um L p wl lv br bc) (hn : 155 ≤ n) (m q : Int) (hm : -2147483648 ≤ m ∧ m < 2147483648) (hq : -2147483648 ≤ q ∧ q < 2147483648) {r : Int} (hE : (r = -1 ∧ ¬ ((0 ≤ m ∧ m < 4) ∧ (0 ≤ q ∧ q < 4))) ∨ (r = -2 ∧ (0 ≤ m ∧ m < 4) ∧ (0 ≤ q ∧ q < 4) ∧ m = q)) : zCt 13 0 0 yX6_copy cX6_copy 4 (some .int) [zr 145, zi m, zi q] n σ (some (zi r)) n σ := by
  refine zCt.of (by decide) rfl (Nat.le_of_ble_eq_true rfl) (fun K C => ?_)
  refine x_aload_n C dX6_copy_0 rfl ?_
  refine x_iconst C dX6_copy_1 ?_
  refine x_putI C dX6_copy_2 lfX6_41 lyX6_0 hM (by omega) (Nat.le_of_ble_eq_true rfl) ?_
  refine x_nm (fun s2 e2 => ?_)
  rw [show s2 = σ from e2.trans (zsu_self hM)]
  clear e2 s2
  refine x_iload_n C dX6_copy_5 rfl ?_
  refine x_callS C dX6_copy_6 (ctX6_isMatrix _ (by omega)) okX6_isMatrix lkX6_104 ⟨by decide, rfl, rfl, Nat.le_of_ble_eq_true rfl⟩ rfl (Or.inl ⟨rfl, rfl⟩) ?_
  refine x_ifeq_d (tgt := 19) C dX6_copy_9 (by decide) (fun c9 => ?_) (fun c9 => ?_)
  · refine x_iconst C dX6_copy_19 ?_
    exact x_iret (st := []) C dX6_copy_20 rfl ⟨congrArg (fun z => some (zi z)) (by first | rfl | omega), rfl, rfl, rfl⟩
  · refine x_iload_n C dX6_copy_12 rfl ?_
    refine x_callS C dX6_copy_13 (ctX6_isMatrix _ (by omega)) okX6_isMatrix lkX6_104 ⟨by decide, rfl, rfl, Nat.le_of_ble_eq_true rfl⟩ rfl (Or.inl ⟨rfl, rfl⟩) ?_
    refine x_ifne_d (tgt := 21) C dX6_copy_16 (by decide) (fun c16 => ?_) (fun c16 => ?_)
    · refine x_iload_n C dX6_copy_21 rfl ?_
      refine x_iload_n C dX6_copy_22 rfl ?_
      refine x_icmp_ne (tgt := 29) C dX6_copy_23 (by decide) (by omega) (fun c23 => ?_) (fun c23 => ?_)
      · exfalso; omega
      · refine x_bipush C dX6_copy_26 (by decide) ?_
        exact x_iret (st := []) C dX6_copy_28 rfl ⟨congrArg (fun z => some (zi z)) (by first | rfl | omega), rfl, rfl, rfl⟩
    · refine x_iconst C dX6_copy_19 ?_
      exact x_iret (st := []) C dX6_copy_20 rfl ⟨congrArg (fun z => some (zi z)) (by first | rfl | omega), rfl, rfl, rfl⟩
theorem ctX6_clearE (hM : σ 145 = zMO um L p wl lv br bc) (hn : 155 ≤ n) (m row col : Int) (hm : -2147483648 ≤ m ∧ m < 2147483648) (hrow : -2147483648 ≤ row ∧ row < 2147483648) (hcol : -2147483648 ≤ col ∧ col < 2147483648) {r : Int} (hE : r = -1 ∧ ¬ ((0 ≤ m ∧ m < 4) ∧ (0 ≤ row ∧ row < 16) ∧ 0 ≤ col ∧ col < 16)) : zCt 13 0 0 yX6_clear cX6_clear 7 (some .int) [zr 145, zi m, zi row, zi col] n σ (some (zi r)) n σ := by
  refine zCt.of (by decide) rfl (Nat.le_of_ble_eq_true rfl) (fun K C => ?_)
  refine x_aload_n C dX6_clear_0 rfl ?_
  refine x_iconst C dX6_clear_1 ?_
  refine x_putI C dX6_clear_2 lfX6_41 lyX6_0 hM (by omega) (Nat.le_of_ble_eq_true rfl) ?_
  refine x_nm (fun s2 e2 => ?_)
  rw [show s2 = σ from e2.trans (zsu_self hM)]
  clear e2 s2
  refine x_iload_n C dX6_clear_5 rfl ?_
  refine x_callS C dX6_clear_6 (ctX6_isMatrix _ (by omega)) okX6_isMatrix lkX6_104 ⟨by decide, rfl, rfl, Nat.le_of_ble_eq_true rfl⟩ rfl (Or.inl ⟨rfl, rfl⟩) ?_
  refine x_ifeq_d (tgt := 20) C dX6_clear_9 (by decide) (fun c9 => ?_) (fun c9 => ?_)
  · refine x_iconst C dX6_clear_20 ?_
    exact x_iret (st := []) C dX6_clear_21 rfl ⟨congrArg (fun z => some (zi z)) (by first | rfl | omega), rfl, rfl, rfl⟩
  · refine x_iload_n C dX6_clear_12 rfl ?_
    refine x_iload_n C dX6_clear_13 rfl ?_
    refine x_callS C dX6_clear_14 (ctX6_isPlace _ _ (by omega) (by omega)) okX6_isPlace lkX6_118 ⟨by decide, rfl, rfl, Nat.le_of_ble_eq_true rfl⟩ rfl (Or.inl ⟨rfl, rfl⟩) ?_
    refine x_ifne_d (tgt := 22) C dX6_clear_17 (by decide) (fun c17 => ?_) (fun c17 => ?_)
    · exfalso; omega
    · refine x_iconst C dX6_clear_20 ?_
      exact x_iret (st := []) C dX6_clear_21 rfl ⟨congrArg (fun z => some (zi z)) (by first | rfl | omega), rfl, rfl, rfl⟩
theorem ctX6_atE (hM : σ 145 = zMO um L p wl lv br bc) (hn : 155 ≤ n) (m row col : Int) (hm : -2147483648 ≤ m ∧ m < 2147483648) (hrow : -2147483648 ≤ row ∧ row < 2147483648) (hcol : -2147483648 ≤ col ∧ col < 2147483648) {r : Int} (hE : r = -1 ∧ ¬ ((0 ≤ m ∧ m < 4) ∧ (0 ≤ row ∧ row < 16) ∧ 0 ≤ col ∧ col < 16)) : zCt 13 0 0 yX6_at cX6_at 4 (some .int) [zr 145, zi m, zi row, zi col] n σ (some (zi r)) n σ := by
  refine zCt.of (by decide) rfl (Nat.le_of_ble_eq_true rfl) (fun K C => ?_)
  refine x_aload_n C dX6_at_0 rfl ?_
  refine x_iconst C dX6_at_1 ?_
  refine x_putI C dX6_at_2 lfX6_41 lyX6_0 hM (by omega) (Nat.le_of_ble_eq_true rfl) ?_
  refine x_nm (fun s2 e2 => ?_)
  rw [show s2 = σ from e2.trans (zsu_self hM)]
  clear e2 s2
  refine x_iload_n C dX6_at_5 rfl ?_
  refine x_callS C dX6_at_6 (ctX6_isMatrix _ (by omega)) okX6_isMatrix lkX6_104 ⟨by decide, rfl, rfl, Nat.le_of_ble_eq_true rfl⟩ rfl (Or.inl ⟨rfl, rfl⟩) ?_
  refine x_ifeq_d (tgt := 33) C dX6_at_9 (by decide) (fun c9 => ?_) (fun c9 => ?_)
  · refine x_iconst C dX6_at_33 ?_
    exact x_iret (st := []) C dX6_at_34 rfl ⟨congrArg (fun z => some (zi z)) (by first | rfl | omega), rfl, rfl, rfl⟩
  · refine x_iload_n C dX6_at_12 rfl ?_
    refine x_iload_n C dX6_at_13 rfl ?_
    refine x_callS C dX6_at_14 (ctX6_isPlace _ _ (by omega) (by omega)) okX6_isPlace lkX6_118 ⟨by decide, rfl, rfl, Nat.le_of_ble_eq_true rfl⟩ rfl (Or.inl ⟨rfl, rfl⟩) ?_
    refine x_ifeq_d (tgt := 33) C dX6_at_17 (by decide) (fun c17 => ?_) (fun c17 => ?_)
    · refine x_iconst C dX6_at_33 ?_
      exact x_iret (st := []) C dX6_at_34 rfl ⟨congrArg (fun z => some (zi z)) (by first | rfl | omega), rfl, rfl, rfl⟩
    · exfalso; omega
theorem ctX6_blockE (hM : σ 145 = zMO um L p wl lv br bc) (hn : 155 ≤ n) (m row col w : Int) (hm : -2147483648 ≤ m ∧ m < 2147483648) (hrow : -2147483648 ≤ row ∧ row < 2147483648) (hcol : -2147483648 ≤ col ∧ col < 2147483648) (hw : -2147483648 ≤ w ∧ w < 2147483648) {r : Int} (hE : r = -1 ∧ ¬ ((0 ≤ m ∧ m < 4) ∧ (0 ≤ row ∧ row < 16) ∧ 0 ≤ col ∧ col < 16)) : zCt 13 0 0 yX6_block cX6_block 8 (some .int) [zr 145, zi m, zi row, zi col, zi w] n σ (some (zi r)) n σ := by
  refine zCt.of (by decide) rfl (Nat.le_of_ble_eq_true rfl) (fun K C => ?_)
  refine x_aload_n C dX6_block_0 rfl ?_
  refine x_iconst C dX6_block_1 ?_
  refine x_putI C dX6_block_2 lfX6_41 lyX6_0 hM (by omega) (Nat.le_of_ble_eq_true rfl) ?_
  refine x_nm (fun s2 e2 => ?_)
  rw [show s2 = σ from e2.trans (zsu_self hM)]
  clear e2 s2
  refine x_iload_n C dX6_block_5 rfl ?_
  refine x_callS C dX6_block_6 (ctX6_isMatrix _ (by omega)) okX6_isMatrix lkX6_104 ⟨by decide, rfl, rfl, Nat.le_of_ble_eq_true rfl⟩ rfl (Or.inl ⟨rfl, rfl⟩) ?_
  refine x_ifeq_d (tgt := 20) C dX6_block_9 (by decide) (fun c9 => ?_) (fun c9 => ?_)
  · refine x_iconst C dX6_block_20 ?_
    exact x_iret (st := []) C dX6_block_21 rfl ⟨congrArg (fun z => some (zi z)) (by first | rfl | omega), rfl, rfl, rfl⟩
  · refine x_iload_n C dX6_block_12 rfl ?_
    refine x_iload_n C dX6_block_13 rfl ?_
    refine x_callS C dX6_block_14 (ctX6_isPlace _ _ (by omega) (by omega)) okX6_isPlace lkX6_118 ⟨by decide, rfl, rfl, Nat.le_of_ble_eq_true rfl⟩ rfl (Or.inl ⟨rfl, rfl⟩) ?_
    refine x_ifne_d (tgt := 22) C dX6_block_17 (by decide) (fun c17 => ?_) (fun c17 => ?_)
    · exfalso; omega
    · refine x_iconst C dX6_block_20 ?_
      exact x_iret (st := []) C dX6_block_21 rfl ⟨congrArg (fun z => some (zi z)) (by first | rfl | omega), rfl, rfl, rfl⟩
theorem ctX6_ofE (hM : σ 145 = zMO um L p wl lv br bc) (hn : 155 ≤ n) (m w : Int) (hm : -2147483648 ≤ m ∧ m < 2147483648) (hw : -2147483648 ≤ w ∧ w < 2147483648) {r : Int} (hE : r = -1 ∧ ¬ (0 ≤ m ∧ m < 4)) : zCt 13 0 0 yX6_of cX6_of 3 (some .int) [zr 145, zi m, zi w] n σ (some (zi r)) n σ := by
  refine zCt.of (by decide) rfl (Nat.le_of_ble_eq_true rfl) (fun K C => ?_)
  refine x_aload_n C dX6_of_0 rfl ?_
  refine x_iconst C dX6_of_1 ?_
  refine x_putI C dX6_of_2 lfX6_41 lyX6_0 hM (by omega) (Nat.le_of_ble_eq_true rfl) ?_
  refine x_nm (fun s2 e2 => ?_)
  rw [show s2 = σ from e2.trans (zsu_self hM)]
  clear e2 s2
  refine x_iload_n C dX6_of_5 rfl ?_
  refine x_callS C dX6_of_6 (ctX6_isMatrix _ (by omega)) okX6_isMatrix lkX6_104 ⟨by decide, rfl, rfl, Nat.le_of_ble_eq_true rfl⟩ rfl (Or.inl ⟨rfl, rfl⟩) ?_
  refine x_ifne_d (tgt := 14) C dX6_of_9 (by decide) (fun c9 => ?_) (fun c9 => ?_)
  · exfalso; omega
  · refine x_iconst C dX6_of_12 ?_
    exact x_iret (st := []) C dX6_of_13 rfl ⟨congrArg (fun z => some (zi z)) (by first | rfl | omega), rfl, rfl, rfl⟩
theorem ctX6_productE (hM : σ 145 = zMO um L p wl lv br bc) (hn : 155 ≤ n) (m row a b : Int) (hm : -2147483648 ≤ m ∧ m < 2147483648) (hrow : -2147483648 ≤ row ∧ row < 2147483648) (ha : -2147483648 ≤ a ∧ a < 2147483648) (hb : -2147483648 ≤ b ∧ b < 2147483648) {r : Int} (hE : r = -1000000000000 ∧ ¬ ((0 ≤ m ∧ m < 4) ∧ (0 ≤ row ∧ row < 16) ∧ (-9999 ≤ a ∧ a ≤ 9999) ∧ -999 ≤ b ∧ b ≤ 999)) : zCt 13 0 0 yX6_product cX6_product 8 (some .long) [zr 145, zi m, zi row, zi a, zi b] n σ (some (zl r)) n σ := by
  refine zCt.of (by decide) rfl (Nat.le_of_ble_eq_true rfl) (fun K C => ?_)
  refine x_aload_n C dX6_product_0 rfl ?_
  refine x_iconst C dX6_product_1 ?_
  refine x_putI C dX6_product_2 lfX6_41 lyX6_0 hM (by omega) (Nat.le_of_ble_eq_true rfl) ?_
  refine x_nm (fun s2 e2 => ?_)
  rw [show s2 = σ from e2.trans (zsu_self hM)]
  clear e2 s2
  refine x_iload_n C dX6_product_5 rfl ?_
  refine x_callS C dX6_product_6 (ctX6_isMatrix _ (by omega)) okX6_isMatrix lkX6_104 ⟨by decide, rfl, rfl, Nat.le_of_ble_eq_true rfl⟩ rfl (Or.inl ⟨rfl, rfl⟩) ?_
  refine x_ifeq_d (tgt := 49) C dX6_product_9 (by decide) (fun c9 => ?_) (fun c9 => ?_)
  · refine x_ldc2 (v := -1000000000000) C dX6_product_49 kcX6_161 (by decide) ?_
    exact x_lret (st := []) C dX6_product_52 rfl ⟨congrArg (fun z => some (zl z)) (by first | rfl | omega), rfl, rfl, rfl⟩
  · refine x_iload_n C dX6_product_12 rfl ?_
    refine x_iconst C dX6_product_13 ?_
    refine x_bipush C dX6_product_14 (by decide) ?_
    refine x_callS C dX6_product_16 (ctX6_in _ _ _ (by omega) (by omega) (by omega)) okX6_in lkX6_45 ⟨by decide, rfl, rfl, Nat.le_of_ble_eq_true rfl⟩ rfl (Or.inl ⟨rfl, rfl⟩) ?_
    refine x_ifeq_d (tgt := 49) C dX6_product_19 (by decide) (fun c19 => ?_) (fun c19 => ?_)
    · refine x_ldc2 (v := -1000000000000) C dX6_product_49 kcX6_161 (by decide) ?_
      exact x_lret (st := []) C dX6_product_52 rfl ⟨congrArg (fun z => some (zl z)) (by first | rfl | omega), rfl, rfl, rfl⟩
    · refine x_iload_n C dX6_product_22 rfl ?_
      refine x_sipush C dX6_product_23 (by decide) ?_
      refine x_sipush C dX6_product_26 (by decide) ?_
      refine x_callS C dX6_product_29 (ctX6_in _ _ _ (by omega) (by omega) (by omega)) okX6_in lkX6_45 ⟨by decide, rfl, rfl, Nat.le_of_ble_eq_true rfl⟩ rfl (Or.inl ⟨rfl, rfl⟩) ?_
      refine x_ifeq_d (tgt := 49) C dX6_product_32 (by decide) (fun c32 => ?_) (fun c32 => ?_)
      · refine x_ldc2 (v := -1000000000000) C dX6_product_49 kcX6_161 (by decide) ?_
        exact x_lret (st := []) C dX6_product_52 rfl ⟨congrArg (fun z => some (zl z)) (by first | rfl | omega), rfl, rfl, rfl⟩
      · refine x_iload C dX6_product_35 rfl ?_
        refine x_sipush C dX6_product_37 (by decide) ?_
        refine x_sipush C dX6_product_40 (by decide) ?_
        refine x_callS C dX6_product_43 (ctX6_in _ _ _ (by omega) (by omega) (by omega)) okX6_in lkX6_45 ⟨by decide, rfl, rfl, Nat.le_of_ble_eq_true rfl⟩ rfl (Or.inl ⟨rfl, rfl⟩) ?_
        refine x_ifne_d (tgt := 53) C dX6_product_46 (by decide) (fun c46 => ?_) (fun c46 => ?_)
        · exfalso; omega
        · refine x_ldc2 (v := -1000000000000) C dX6_product_49 kcX6_161 (by decide) ?_
          exact x_lret (st := []) C dX6_product_52 rfl ⟨congrArg (fun z => some (zl z)) (by first | rfl | omega), rfl, rfl, rfl⟩
theorem ctX6_shareE (hM : σ 145 = zMO um L p wl lv br bc) (hn : 155 ≤ n) (m : Int) (hm : -2147483648 ≤ m ∧ m < 2147483648) {r : Int} (hE : r = -1 ∧ ¬ (0 ≤ m ∧ m < 4)) : zCt 13 0 0 yX6_share cX6_share 2 (some .int) [zr 145, zi m] n σ (some (zi r)) n σ := by
  refine zCt.of (by decide) rfl (Nat.le_of_ble_eq_true rfl) (fun K C => ?_)
  refine x_aload_n C dX6_share_0 rfl ?_
  refine x_iconst C dX6_share_1 ?_
  refine x_putI C dX6_share_2 lfX6_41 lyX6_0 hM (by omega) (Nat.le_of_ble_eq_true rfl) ?_
  refine x_nm (fun s2 e2 => ?_)
  rw [show s2 = σ from e2.trans (zsu_self hM)]
  clear e2 s2
  refine x_iload_n C dX6_share_5 rfl ?_
  refine x_callS C dX6_share_6 (ctX6_isMatrix _ (by omega)) okX6_isMatrix lkX6_104 ⟨by decide, rfl, rfl, Nat.le_of_ble_eq_true rfl⟩ rfl (Or.inl ⟨rfl, rfl⟩) ?_
  refine x_ifeq_d (tgt := 27) C dX6_share_9 (by decide) (fun c9 => ?_) (fun c9 => ?_)
  · refine x_iconst C dX6_share_27 ?_
    exact x_iret (st := []) C dX6_share_28 rfl ⟨congrArg (fun z => some (zi z)) (by first | rfl | omega), rfl, rfl, rfl⟩
  · exfalso; omega
theorem ctX6_farE (hM : σ 145 = zMO um L p wl lv br bc) (hn : 155 ≤ n) (m q : Int) (hm : -2147483648 ≤ m ∧ m < 2147483648) (hq : -2147483648 ≤ q ∧ q < 2147483648) {r : Int} (hE : r = -1 ∧ ¬ ((0 ≤ m ∧ m < 4) ∧ (0 ≤ q ∧ q < 4))) : zCt 13 0 0 yX6_far cX6_far 6 (some .int) [zr 145, zi m, zi q] n σ (some (zi r)) n σ := by
  refine zCt.of (by decide) rfl (Nat.le_of_ble_eq_true rfl) (fun K C => ?_)
  refine x_aload_n C dX6_far_0 rfl ?_
  refine x_iconst C dX6_far_1 ?_
  refine x_putI C dX6_far_2 lfX6_41 lyX6_0 hM (by omega) (Nat.le_of_ble_eq_true rfl) ?_
  refine x_nm (fun s2 e2 => ?_)
  rw [show s2 = σ from e2.trans (zsu_self hM)]
  clear e2 s2
  refine x_iload_n C dX6_far_5 rfl ?_
  refine x_callS C dX6_far_6 (ctX6_isMatrix _ (by omega)) okX6_isMatrix lkX6_104 ⟨by decide, rfl, rfl, Nat.le_of_ble_eq_true rfl⟩ rfl (Or.inl ⟨rfl, rfl⟩) ?_
  refine x_ifeq_d (tgt := 19) C dX6_far_9 (by decide) (fun c9 => ?_) (fun c9 => ?_)
  · refine x_iconst C dX6_far_19 ?_
    exact x_iret (st := []) C dX6_far_20 rfl ⟨congrArg (fun z => some (zi z)) (by first | rfl | omega), rfl, rfl, rfl⟩
  · refine x_iload_n C dX6_far_12 rfl ?_
    refine x_callS C dX6_far_13 (ctX6_isMatrix _ (by omega)) okX6_isMatrix lkX6_104 ⟨by decide, rfl, rfl, Nat.le_of_ble_eq_true rfl⟩ rfl (Or.inl ⟨rfl, rfl⟩) ?_
    refine x_ifne_d (tgt := 21) C dX6_far_16 (by decide) (fun c16 => ?_) (fun c16 => ?_)
    · exfalso; omega
    · refine x_iconst C dX6_far_19 ?_
      exact x_iret (st := []) C dX6_far_20 rfl ⟨congrArg (fun z => some (zi z)) (by first | rfl | omega), rfl, rfl, rfl⟩
theorem ctX6_wouldTakeE (hM : σ 145 = zMO um L p wl lv br bc) (hn : 155 ≤ n) (m : Int) (hm : -2147483648 ≤ m ∧ m < 2147483648) {r : Int} (hE : r = -1 ∧ ¬ (0 ≤ m ∧ m < 4)) : zCt 13 0 0 yX6_wouldTake cX6_wouldTake 3 (some .int) [zr 145, zi m] n σ (some (zi r)) n σ := by
  refine zCt.of (by decide) rfl (Nat.le_of_ble_eq_true rfl) (fun K C => ?_)
  refine x_aload_n C dX6_wouldTake_0 rfl ?_
  refine x_iconst C dX6_wouldTake_1 ?_
  refine x_putI C dX6_wouldTake_2 lfX6_41 lyX6_0 hM (by omega) (Nat.le_of_ble_eq_true rfl) ?_
  refine x_nm (fun s2 e2 => ?_)
  rw [show s2 = σ from e2.trans (zsu_self hM)]
  clear e2 s2
  refine x_iload_n C dX6_wouldTake_5 rfl ?_
  refine x_callS C dX6_wouldTake_6 (ctX6_isMatrix _ (by omega)) okX6_isMatrix lkX6_104 ⟨by decide, rfl, rfl, Nat.le_of_ble_eq_true rfl⟩ rfl (Or.inl ⟨rfl, rfl⟩) ?_
  refine x_ifne_d (tgt := 14) C dX6_wouldTake_9 (by decide) (fun c9 => ?_) (fun c9 => ?_)
  · exfalso; omega
  · refine x_iconst C dX6_wouldTake_12 ?_
    exact x_iret (st := []) C dX6_wouldTake_13 rfl ⟨congrArg (fun z => some (zi z)) (by first | rfl | omega), rfl, rfl, rfl⟩
theorem ctX6_bestTimesE (hM : σ 145 = zMO um L p wl lv br bc) (hn : 155 ≤ n) (m q w : Int) (hm : -2147483648 ≤ m ∧ m < 2147483648) (hq : -2147483648 ≤ q ∧ q < 2147483648) (hw : -2147483648 ≤ w ∧ w < 2147483648) {r : Int} (hE : (r = -1 ∧ ¬ ((0 ≤ m ∧ m < 4) ∧ (0 ≤ q ∧ q < 4))) ∨ (r = -2 ∧ (0 ≤ m ∧ m < 4) ∧ (0 ≤ q ∧ q < 4) ∧ (¬ (w = 0 ∨ w = 1) ∨ m = q))) : zCt 13 0 0 yX6_bestTimes cX6_bestTimes 8 (some .int) [zr 145, zi m, zi q, zi w] n σ (some (zi r)) n σ := by
  refine zCt.of (by decide) rfl (Nat.le_of_ble_eq_true rfl) (fun K C => ?_)
  refine x_aload_n C dX6_bestTimes_0 rfl ?_
  refine x_iconst C dX6_bestTimes_1 ?_
  refine x_putI C dX6_bestTimes_2 lfX6_41 lyX6_0 hM (by omega) (Nat.le_of_ble_eq_true rfl) ?_
  refine x_nm (fun s2 e2 => ?_)
  rw [show s2 = σ from e2.trans (zsu_self hM)]
  clear e2 s2
  refine x_iload_n C dX6_bestTimes_5 rfl ?_
  refine x_callS C dX6_bestTimes_6 (ctX6_isMatrix _ (by omega)) okX6_isMatrix lkX6_104 ⟨by decide, rfl, rfl, Nat.le_of_ble_eq_true rfl⟩ rfl (Or.inl ⟨rfl, rfl⟩) ?_
  refine x_ifeq_d (tgt := 19) C dX6_bestTimes_9 (by decide) (fun c9 => ?_) (fun c9 => ?_)
  · refine x_iconst C dX6_bestTimes_19 ?_
    exact x_iret (st := []) C dX6_bestTimes_20 rfl ⟨congrArg (fun z => some (zi z)) (by first | rfl | omega), rfl, rfl, rfl⟩
  · refine x_iload_n C dX6_bestTimes_12 rfl ?_
    refine x_callS C dX6_bestTimes_13 (ctX6_isMatrix _ (by omega)) okX6_isMatrix lkX6_104 ⟨by decide, rfl, rfl, Nat.le_of_ble_eq_true rfl⟩ rfl (Or.inl ⟨rfl, rfl⟩) ?_
    refine x_ifne_d (tgt := 21) C dX6_bestTimes_16 (by decide) (fun c16 => ?_) (fun c16 => ?_)
    · refine x_iload_n C dX6_bestTimes_21 rfl ?_
      refine x_iconst C dX6_bestTimes_22 ?_
      refine x_iconst C dX6_bestTimes_23 ?_
      refine x_callS C dX6_bestTimes_24 (ctX6_in _ _ _ (by omega) (by omega) (by omega)) okX6_in lkX6_45 ⟨by decide, rfl, rfl, Nat.le_of_ble_eq_true rfl⟩ rfl (Or.inl ⟨rfl, rfl⟩) ?_
      refine x_ifeq_d (tgt := 35) C dX6_bestTimes_27 (by decide) (fun c27 => ?_) (fun c27 => ?_)
      · refine x_bipush C dX6_bestTimes_35 (by decide) ?_
        exact x_iret (st := []) C dX6_bestTimes_37 rfl ⟨congrArg (fun z => some (zi z)) (by first | rfl | omega), rfl, rfl, rfl⟩
      · refine x_iload_n C dX6_bestTimes_30 rfl ?_
        refine x_iload_n C dX6_bestTimes_31 rfl ?_
        refine x_icmp_ne (tgt := 38) C dX6_bestTimes_32 (by decide) (by omega) (fun c32 => ?_) (fun c32 => ?_)
        · exfalso; omega
        · refine x_bipush C dX6_bestTimes_35 (by decide) ?_
          exact x_iret (st := []) C dX6_bestTimes_37 rfl ⟨congrArg (fun z => some (zi z)) (by first | rfl | omega), rfl, rfl, rfl⟩
    · refine x_iconst C dX6_bestTimes_19 ?_
      exact x_iret (st := []) C dX6_bestTimes_20 rfl ⟨congrArg (fun z => some (zi z)) (by first | rfl | omega), rfl, rfl, rfl⟩
theorem ctX6_tellE (hM : σ 145 = zMO um L p wl lv br bc) (hn : 155 ≤ n) (m : Int) (hm : -2147483648 ≤ m ∧ m < 2147483648) {r : Int} (hE : r = -1 ∧ ¬ (0 ≤ m ∧ m < 4)) : zCt 18 0 0 yX6_tell cX6_tell 3 (some .int) [zr 145, zi m] n σ (some (zi r)) n σ := by
  refine zCt.of (by decide) rfl (Nat.le_of_ble_eq_true rfl) (fun K C => ?_)
  refine x_aload_n C dX6_tell_0 rfl ?_
  refine x_iconst C dX6_tell_1 ?_
  refine x_putI C dX6_tell_2 lfX6_41 lyX6_0 hM (by omega) (Nat.le_of_ble_eq_true rfl) ?_
  refine x_nm (fun s2 e2 => ?_)
  rw [show s2 = σ from e2.trans (zsu_self hM)]
  clear e2 s2
  refine x_iload_n C dX6_tell_5 rfl ?_
  refine x_callS C dX6_tell_6 (ctX6_isMatrix _ (by omega)) okX6_isMatrix lkX6_104 ⟨by decide, rfl, rfl, Nat.le_of_ble_eq_true rfl⟩ rfl (Or.inl ⟨rfl, rfl⟩) ?_
  refine x_ifne_d (tgt := 14) C dX6_tell_9 (by decide) (fun c9 => ?_) (fun c9 => ?_)
  · exfalso; omega
  · refine x_iconst C dX6_tell_12 ?_
    exact x_iret (st := []) C dX6_tell_13 rfl ⟨congrArg (fun z => some (zi z)) (by first | rfl | omega), rfl, rfl, rfl⟩
theorem ctX6_saveE (hM : σ 145 = zMO um L p wl lv br bc) (hn : 155 ≤ n) (k : Int) (hk : -2147483648 ≤ k ∧ k < 2147483648) {r : Int} (hE : r = -2 ∧ ¬ (0 ≤ k ∧ k < 2)) : zCt 13 0 0 yX6_save cX6_save 3 (some .int) [zr 145, zi k] n σ (some (zi r)) n σ := by
  refine zCt.of (by decide) rfl (Nat.le_of_ble_eq_true rfl) (fun K C => ?_)
  refine x_aload_n C dX6_save_0 rfl ?_
  refine x_iconst C dX6_save_1 ?_
  refine x_putI C dX6_save_2 lfX6_41 lyX6_0 hM (by omega) (Nat.le_of_ble_eq_true rfl) ?_
  refine x_nm (fun s2 e2 => ?_)
  rw [show s2 = σ from e2.trans (zsu_self hM)]
  clear e2 s2
  refine x_iload_n C dX6_save_5 rfl ?_
  refine x_iconst C dX6_save_6 ?_
  refine x_iconst C dX6_save_7 ?_
  refine x_callS C dX6_save_8 (ctX6_in _ _ _ (by omega) (by omega) (by omega)) okX6_in lkX6_45 ⟨by decide, rfl, rfl, Nat.le_of_ble_eq_true rfl⟩ rfl (Or.inl ⟨rfl, rfl⟩) ?_
  refine x_ifne_d (tgt := 17) C dX6_save_11 (by decide) (fun c11 => ?_) (fun c11 => ?_)
  · exfalso; omega
  · refine x_bipush C dX6_save_14 (by decide) ?_
    exact x_iret (st := []) C dX6_save_16 rfl ⟨congrArg (fun z => some (zi z)) (by first | rfl | omega), rfl, rfl, rfl⟩
theorem ctX6_restoreE (hM : σ 145 = zMO um L p wl lv br bc) (hn : 155 ≤ n) (k : Int) (hk : -2147483648 ≤ k ∧ k < 2147483648) {r : Int} (hE : r = -2 ∧ ¬ (0 ≤ k ∧ k < 2)) : zCt 13 0 0 yX6_restore cX6_restore 3 (some .int) [zr 145, zi k] n σ (some (zi r)) n σ := by
  refine zCt.of (by decide) rfl (Nat.le_of_ble_eq_true rfl) (fun K C => ?_)
  refine x_aload_n C dX6_restore_0 rfl ?_
  refine x_iconst C dX6_restore_1 ?_
  refine x_putI C dX6_restore_2 lfX6_41 lyX6_0 hM (by omega) (Nat.le_of_ble_eq_true rfl) ?_
  refine x_nm (fun s2 e2 => ?_)
  rw [show s2 = σ from e2.trans (zsu_self hM)]
  clear e2 s2
  refine x_iload_n C dX6_restore_5 rfl ?_
  refine x_iconst C dX6_restore_6 ?_
  refine x_iconst C dX6_restore_7 ?_
  refine x_callS C dX6_restore_8 (ctX6_in _ _ _ (by omega) (by omega) (by omega)) okX6_in lkX6_45 ⟨by decide, rfl, rfl, Nat.le_of_ble_eq_true rfl⟩ rfl (Or.inl ⟨rfl, rfl⟩) ?_
  refine x_ifne_d (tgt := 17) C dX6_restore_11 (by decide) (fun c11 => ?_) (fun c11 => ?_)
  · exfalso; omega
  · refine x_bipush C dX6_restore_14 (by decide) ?_
    exact x_iret (st := []) C dX6_restore_16 rfl ⟨congrArg (fun z => some (zi z)) (by first | rfl | omega), rfl, rfl, rfl⟩
theorem ctX6_isOneE (hM : σ 145 = zMO um L p wl lv br bc) (hn : 155 ≤ n) (m row col s : Int) (hm : -2147483648 ≤ m ∧ m < 2147483648) (hrow : -2147483648 ≤ row ∧ row < 2147483648) (hcol : -2147483648 ≤ col ∧ col < 2147483648) (hs : -2147483648 ≤ s ∧ s < 2147483648) {r : Int} (hE : (r = -1 ∧ ¬ (0 ≤ m ∧ m < 4)) ∨ (r = -2 ∧ (0 ≤ m ∧ m < 4) ∧ ¬ ((s = 2 ∨ s = 4 ∨ s = 8 ∨ s = 16) ∧ (0 ≤ row ∧ row ≤ 16 - s ∧ row % s = 0) ∧ 0 ≤ col ∧ col ≤ 16 - s ∧ col % s = 0))) : zCt 13 0 0 yX6_isOne cX6_isOne 5 (some .int) [zr 145, zi m, zi row, zi col, zi s] n σ (some (zi r)) n σ := by
  refine zCt.of (by decide) rfl (Nat.le_of_ble_eq_true rfl) (fun K C => ?_)
  have part : (0 ≤ m ∧ m < 4) → (s = 2 ∨ s = 4 ∨ s = 8 ∨ s = 16) → K 43 [some (zr 145), some (zi m), some (zi row), some (zi col), some (zi s)] [] n σ 0 := by
    intro hm4 hs4
    have hr2 : r = -2 ∧ ¬ ((0 ≤ row ∧ row ≤ 16 - s ∧ row % s = 0) ∧ 0 ≤ col ∧ col ≤ 16 - s ∧ col % s = 0) := by
      rcases hE with e | e
      · exact absurd hm4 e.2
      · exact ⟨e.1, fun z => e.2.2 ⟨hs4, z⟩⟩
    have q1 := Int.emod_nonneg row (show s ≠ 0 by omega)
    have q2 := Int.emod_lt_of_pos row (show 0 < s by omega)
    have q3 := Int.emod_nonneg col (show s ≠ 0 by omega)
    have q4 := Int.emod_lt_of_pos col (show 0 < s by omega)
    refine x_iload_n C dX6_isOne_43 rfl ?_
    refine x_iconst C dX6_isOne_44 ?_
    refine x_bipush C dX6_isOne_45 (by decide) ?_
    refine x_iload C dX6_isOne_47 rfl ?_
    refine x_isub C dX6_isOne_49 ?_
    refine x_callS C dX6_isOne_50 (ctX6_in _ _ _ (by omega) (by omega) (by omega)) okX6_in lkX6_45 ⟨by decide, rfl, rfl, Nat.le_of_ble_eq_true rfl⟩ rfl (Or.inl ⟨rfl, rfl⟩) ?_
    refine x_ifeq_d (tgt := 83) C dX6_isOne_53 (by decide) (fun c53 => ?_) (fun c53 => ?_)
    · refine x_bipush C dX6_isOne_83 (by decide) ?_
      exact x_iret (st := []) C dX6_isOne_85 rfl ⟨congrArg (fun z => some (zi z)) hr2.1.symm, rfl, rfl, rfl⟩
    · refine x_iload_n C dX6_isOne_56 rfl ?_
      refine x_iconst C dX6_isOne_57 ?_
      refine x_bipush C dX6_isOne_58 (by decide) ?_
      refine x_iload C dX6_isOne_60 rfl ?_
      refine x_isub C dX6_isOne_62 ?_
      refine x_callS C dX6_isOne_63 (ctX6_in _ _ _ (by omega) (by omega) (by omega)) okX6_in lkX6_45 ⟨by decide, rfl, rfl, Nat.le_of_ble_eq_true rfl⟩ rfl (Or.inl ⟨rfl, rfl⟩) ?_
      refine x_ifeq_d (tgt := 83) C dX6_isOne_66 (by decide) (fun c66 => ?_) (fun c66 => ?_)
      · refine x_bipush C dX6_isOne_83 (by decide) ?_
        exact x_iret (st := []) C dX6_isOne_85 rfl ⟨congrArg (fun z => some (zi z)) hr2.1.symm, rfl, rfl, rfl⟩
      · refine x_iload_n C dX6_isOne_69 rfl ?_
        refine x_iload C dX6_isOne_70 rfl ?_
        refine x_irem C dX6_isOne_72 (by omega) ?_
        refine x_if_ne (tgt := 83) C dX6_isOne_73 (by decide) (by omega) (fun c73 => ?_) (fun c73 => ?_)
        · refine x_bipush C dX6_isOne_83 (by decide) ?_
          exact x_iret (st := []) C dX6_isOne_85 rfl ⟨congrArg (fun z => some (zi z)) hr2.1.symm, rfl, rfl, rfl⟩
        · refine x_iload_n C dX6_isOne_76 rfl ?_
          refine x_iload C dX6_isOne_77 rfl ?_
          refine x_irem C dX6_isOne_79 (by omega) ?_
          refine x_if_eq (tgt := 86) C dX6_isOne_80 (by decide) (by omega) (fun c80 => ?_) (fun c80 => ?_)
          · exact absurd ⟨⟨c53.1, c53.2, c73⟩, c66.1, c66.2, c80⟩ hr2.2
          · refine x_bipush C dX6_isOne_83 (by decide) ?_
            exact x_iret (st := []) C dX6_isOne_85 rfl ⟨congrArg (fun z => some (zi z)) hr2.1.symm, rfl, rfl, rfl⟩
  refine x_aload_n C dX6_isOne_0 rfl ?_
  refine x_iconst C dX6_isOne_1 ?_
  refine x_putI C dX6_isOne_2 lfX6_41 lyX6_0 hM (by omega) (Nat.le_of_ble_eq_true rfl) ?_
  refine x_nm (fun s2 e2 => ?_)
  rw [show s2 = σ from e2.trans (zsu_self hM)]
  clear e2 s2
  refine x_iload_n C dX6_isOne_5 rfl ?_
  refine x_callS C dX6_isOne_6 (ctX6_isMatrix _ (by omega)) okX6_isMatrix lkX6_104 ⟨by decide, rfl, rfl, Nat.le_of_ble_eq_true rfl⟩ rfl (Or.inl ⟨rfl, rfl⟩) ?_
  refine x_ifne_d (tgt := 14) C dX6_isOne_9 (by decide) (fun c9 => ?_) (fun c9 => ?_)
  · refine x_iload C dX6_isOne_14 rfl ?_
    refine x_iconst C dX6_isOne_16 ?_
    refine x_icmp_eq (tgt := 43) C dX6_isOne_17 (by decide) (by omega) (fun c17 => ?_) (fun c17 => ?_)
    · exact part (by omega) (by omega)
    · refine x_iload C dX6_isOne_20 rfl ?_
      refine x_iconst C dX6_isOne_22 ?_
      refine x_icmp_eq (tgt := 43) C dX6_isOne_23 (by decide) (by omega) (fun c23 => ?_) (fun c23 => ?_)
      · exact part (by omega) (by omega)
      · refine x_iload C dX6_isOne_26 rfl ?_
        refine x_bipush C dX6_isOne_28 (by decide) ?_
        refine x_icmp_eq (tgt := 43) C dX6_isOne_30 (by decide) (by omega) (fun c30 => ?_) (fun c30 => ?_)
        · exact part (by omega) (by omega)
        · refine x_iload C dX6_isOne_33 rfl ?_
          refine x_bipush C dX6_isOne_35 (by decide) ?_
          refine x_icmp_eq (tgt := 43) C dX6_isOne_37 (by decide) (by omega) (fun c37 => ?_) (fun c37 => ?_)
          · exact part (by omega) (by omega)
          · refine x_bipush C dX6_isOne_40 (by decide) ?_
            exact x_iret (st := []) C dX6_isOne_42 rfl ⟨congrArg (fun z => some (zi z)) (by first | rfl | omega), rfl, rfl, rfl⟩
  · refine x_iconst C dX6_isOne_12 ?_
    exact x_iret (st := []) C dX6_isOne_13 rfl ⟨congrArg (fun z => some (zi z)) (by first | rfl | omega), rfl, rfl, rfl⟩
theorem ctX6_at (h : isMo σ n S) (m row col : Int) (hm : (0 ≤ m ∧ m < 4)) (hr : 0 ≤ row ∧ row < 16) (hc : 0 ≤ col ∧ col < 16) : zCt 13 0 0 yX6_at cX6_at 4 (some .int) [zr 145, zi m, zi row, zi col] n σ (some (zi (zsE S m (row * 16 + col) + 1000000))) n σ := by
  obtain ⟨⟨um, L, p, wl, lv, br, bc, hM⟩, hS0, hn⟩ := id h
  refine zCt.of (by decide) rfl (Nat.le_of_ble_eq_true rfl) (fun K C => ?_)
  refine x_aload_n C dX6_at_0 rfl ?_
  refine x_iconst C dX6_at_1 ?_
  refine x_putI C dX6_at_2 lfX6_41 lyX6_0 hM (by omega) (Nat.le_of_ble_eq_true rfl) ?_
  refine x_nm (fun s2 e2 => ?_)
  rw [show s2 = σ from e2.trans (zsu_self hM)]
  clear e2 s2
  refine x_iload_n C dX6_at_5 rfl ?_
  refine x_callS C dX6_at_6 (ctX6_isMatrix _ (by omega)) okX6_isMatrix lkX6_104 ⟨by decide, rfl, rfl, Nat.le_of_ble_eq_true rfl⟩ rfl (Or.inl ⟨rfl, rfl⟩) ?_
  refine x_ifeq_d (tgt := 33) C dX6_at_9 (by decide) (fun c9 => ?_) (fun c9 => ?_)
  · exfalso; omega
  · refine x_iload_n C dX6_at_12 rfl ?_
    refine x_iload_n C dX6_at_13 rfl ?_
    refine x_callS C dX6_at_14 (ctX6_isPlace _ _ (by omega) (by omega)) okX6_isPlace lkX6_118 ⟨by decide, rfl, rfl, Nat.le_of_ble_eq_true rfl⟩ rfl (Or.inl ⟨rfl, rfl⟩) ?_
    refine x_ifeq_d (tgt := 33) C dX6_at_17 (by decide) (fun c17 => ?_) (fun c17 => ?_)
    · exfalso; omega
    · refine x_aload_n C dX6_at_20 rfl ?_
      refine x_iload_n C dX6_at_21 rfl ?_
      refine x_iload_n C dX6_at_22 rfl ?_
      refine x_iload_n C dX6_at_23 rfl ?_
      refine x_callV C dX6_at_24 (ctX6_get h m row col hm hr hc) okX6_get lkX6_81 ⟨⟨hM, rfl, rfl⟩, (by omega)⟩ ⟨by decide, rfl, rfl, Nat.le_of_ble_eq_true rfl⟩ rfl (Or.inl ⟨rfl, rfl⟩) ?_
      refine x_ldc (v := 1000000) C dX6_at_27 kcX6_123 (by decide) ?_
      refine x_iadd C dX6_at_29 ?_
      refine x_goto (tgt := 34) C dX6_at_30 (by decide) ?_
      exact x_iret (st := []) C dX6_at_34 rfl ⟨congrArg (fun z => some (zi z)) (by first | rfl | omega), rfl, rfl, rfl⟩
/-- what block() answers in the model -/
def zbm6 (t : Int → Int) (row col w : Int) : Int := if w = 0 then t (zno (zdp t row col) row col) else if w = 1 then zsz (zdp t row col) else if w = 2 then row / zsz (zdp t row col) * zsz (zdp t row col) else if w = 3 then col / zsz (zdp t row col) * zsz (zdp t row col) else if w = 4 then zrk (t (zno (zdp t row col) row col)) (zsz (zdp t row col)) else if w = 5 then zdp t row col else -2
theorem zdvs {k x : Int} (hk : 0 ≤ k ∧ k ≤ 3) (hx : 0 ≤ x ∧ x < 16) : 0 ≤ x / zsz k ∧ x / zsz k < zp2 k := by
  have h3 : k = 0 ∨ k = 1 ∨ k = 2 ∨ k = 3 := by omega
  rcases h3 with rfl | rfl | rfl | rfl <;> simp [zsz, zp2] <;> omega
theorem ctX6_block (h : isMo σ n S) (hS : isSo S) (m row col w : Int) (hm : (0 ≤ m ∧ m < 4)) (hr : 0 ≤ row ∧ row < 16) (hc : 0 ≤ col ∧ col < 16) (hw : -2147483648 ≤ w ∧ w < 2147483648) (hl : zsT S m (zno 0 row col) = 3 → zsT S m (zno 1 row col) = 3 → zsT S m (zno 2 row col) = 3 → zsT S m (zno 3 row col) ≠ 3) : zCt 13 0 0 yX6_block cX6_block 8 (some .int) [zr 145, zi m, zi row, zi col, zi w] n σ (some (zi (zbm6 (zsT S m) row col w))) n σ := by
  have hdz := zdp_in (zsT S m) row col
  have hD := ctX6_depthAt h hS m row col hm hr hc hl
  have h7 : w = 0 ∨ w = 1 ∨ w = 2 ∨ w = 3 ∨ w = 4 ∨ w = 5 ∨ w < 0 ∨ 5 < w := by omega
  unfold zbm6
  generalize hdd : zdp (zsT S m) row col = d at *
  have hz := zsz_v hdz
  have q1 := zdvs hdz hr
  have q2 := zdvs hdz hc
  have hs := hS.m hm hdz q1 q2
  obtain ⟨⟨um, L, p, wl, lv, br, bc, hM⟩, hS0, hn⟩ := id h
  refine zCt.of (by decide) rfl (Nat.le_of_ble_eq_true rfl) (fun K C => ?_)
  refine x_aload_n C dX6_block_0 rfl ?_
  refine x_iconst C dX6_block_1 ?_
  refine x_putI C dX6_block_2 lfX6_41 lyX6_0 hM (by omega) (Nat.le_of_ble_eq_true rfl) ?_
  refine x_nm (fun s2 e2 => ?_)
  rw [show s2 = σ from e2.trans (zsu_self hM)]
  clear e2 s2
  refine x_iload_n C dX6_block_5 rfl ?_
  refine x_callS C dX6_block_6 (ctX6_isMatrix _ (by omega)) okX6_isMatrix lkX6_104 ⟨by decide, rfl, rfl, Nat.le_of_ble_eq_true rfl⟩ rfl (Or.inl ⟨rfl, rfl⟩) ?_
  refine x_ifeq_d (tgt := 20) C dX6_block_9 (by decide) (fun c9 => ?_) (fun c9 => ?_)
  · exfalso; omega
  · refine x_iload_n C dX6_block_12 rfl ?_
    refine x_iload_n C dX6_block_13 rfl ?_
    refine x_callS C dX6_block_14 (ctX6_isPlace _ _ (by omega) (by omega)) okX6_isPlace lkX6_118 ⟨by decide, rfl, rfl, Nat.le_of_ble_eq_true rfl⟩ rfl (Or.inl ⟨rfl, rfl⟩) ?_
    refine x_ifne_d (tgt := 22) C dX6_block_17 (by decide) (fun c17 => ?_) (fun c17 => ?_)
    · refine x_aload_n C dX6_block_22 rfl ?_
      refine x_iload_n C dX6_block_23 rfl ?_
      refine x_iload_n C dX6_block_24 rfl ?_
      refine x_iload_n C dX6_block_25 rfl ?_
      refine x_callV C dX6_block_26 hD okX6_depthAt lkX6_152 ⟨⟨hM, rfl, rfl⟩, (by omega)⟩ ⟨by decide, rfl, rfl, Nat.le_of_ble_eq_true rfl⟩ rfl (Or.inl ⟨rfl, rfl⟩) ?_
      refine x_istore C dX6_block_29 (by decide) ?_
      refine x_iload C dX6_block_31 rfl ?_
      refine x_callS C dX6_block_33 (ctX6_sizeAt d hdz) okX6_sizeAt lkX6_67 ⟨by decide, rfl, rfl, Nat.le_of_ble_eq_true rfl⟩ rfl (Or.inl ⟨rfl, rfl⟩) ?_
      refine x_istore C dX6_block_36 (by decide) ?_
      refine x_aload_n C dX6_block_38 rfl ?_
      refine x_iload_n C dX6_block_39 rfl ?_
      refine x_iload C dX6_block_40 rfl ?_
      refine x_iload_n C dX6_block_42 rfl ?_
      refine x_iload C dX6_block_43 rfl ?_
      refine x_idiv C dX6_block_45 (by omega) ?_
      refine x_iload_n C dX6_block_46 rfl ?_
      refine x_iload C dX6_block_47 rfl ?_
      refine x_idiv C dX6_block_49 (by omega) ?_
      refine x_callV C dX6_block_50 (ctX6_sort h m d _ _ hm hdz q1 q2) okX6_sort lkX6_59 ⟨⟨hM, rfl, rfl⟩, (by omega)⟩ ⟨by decide, rfl, rfl, Nat.le_of_ble_eq_true rfl⟩ rfl (Or.inl ⟨rfl, rfl⟩) ?_
      refine x_istore C dX6_block_53 (by decide) ?_
      refine x_iload C dX6_block_55 rfl ?_
      rcases h7 with rfl | rfl | rfl | rfl | rfl | rfl | hw
      · refine x_tableIn (tgt := 96) C dX6_block_57 (by decide) rfl (by decide) ?_
        refine x_iload C dX6_block_96 rfl ?_
        exact x_iret (st := []) C dX6_block_98 rfl ⟨congrArg (fun z => some (zi z)) (by first | rfl | omega), rfl, rfl, rfl⟩
      · refine x_tableIn (tgt := 99) C dX6_block_57 (by decide) rfl (by decide) ?_
        refine x_iload C dX6_block_99 rfl ?_
        exact x_iret (st := []) C dX6_block_101 rfl ⟨congrArg (fun z => some (zi z)) (by first | rfl | omega), rfl, rfl, rfl⟩
      · refine x_tableIn (tgt := 102) C dX6_block_57 (by decide) rfl (by decide) ?_
        refine x_iload_n C dX6_block_102 rfl ?_
        refine x_iload C dX6_block_103 rfl ?_
        refine x_idiv C dX6_block_105 (by omega) ?_
        refine x_iload C dX6_block_106 rfl ?_
        refine x_imul C dX6_block_108 ?_
        exact x_iret (st := []) C dX6_block_109 rfl ⟨congrArg (fun z => some (zi z)) (by first | rfl | omega), rfl, rfl, rfl⟩
      · refine x_tableIn (tgt := 110) C dX6_block_57 (by decide) rfl (by decide) ?_
        refine x_iload_n C dX6_block_110 rfl ?_
        refine x_iload C dX6_block_111 rfl ?_
        refine x_idiv C dX6_block_113 (by omega) ?_
        refine x_iload C dX6_block_114 rfl ?_
        refine x_imul C dX6_block_116 ?_
        exact x_iret (st := []) C dX6_block_117 rfl ⟨congrArg (fun z => some (zi z)) (by first | rfl | omega), rfl, rfl, rfl⟩
      · refine x_tableIn (tgt := 118) C dX6_block_57 (by decide) rfl (by decide) ?_
        refine x_iload C dX6_block_118 rfl ?_
        refine x_iload C dX6_block_120 rfl ?_
        refine x_callS C dX6_block_122 (ctX6_roomOf _ _ hs) okX6_roomOf lkX6_71 ⟨by decide, rfl, rfl, Nat.le_of_ble_eq_true rfl⟩ rfl (Or.inl ⟨rfl, rfl⟩) ?_
        exact x_iret (st := []) C dX6_block_125 rfl ⟨congrArg (fun z => some (zi z)) (by first | rfl | omega), rfl, rfl, rfl⟩
      · refine x_tableIn (tgt := 126) C dX6_block_57 (by decide) rfl (by decide) ?_
        refine x_iload C dX6_block_126 rfl ?_
        exact x_iret (st := []) C dX6_block_128 rfl ⟨congrArg (fun z => some (zi z)) (by first | rfl | omega), rfl, rfl, rfl⟩
      · refine x_tableOut (tgt := 129) C dX6_block_57 (by omega) (by decide) ?_
        refine x_bipush C dX6_block_129 (by decide) ?_
        exact x_iret (st := []) C dX6_block_131 rfl ⟨congrArg (fun z => some (zi z)) (by repeat rw [if_neg (by omega)]), rfl, rfl, rfl⟩
    · exfalso; omega
def zof6 (e t : Int → Int) (w : Int) : Int := if w = 0 then zrmF t 0 0 0 else if 1 ≤ w ∧ w ≤ 5 then zobF t w 4 else if w = 7 then zsm (fun k => e (k * 16 + k)) 16 + 100000000 else if 6 ≤ w ∧ w ≤ 10 then zoeq e w else -2
theorem ctX6_of (h : isMo σ n S) (hS : isSo S) (m w : Int) (hm : (0 ≤ m ∧ m < 4)) (he : zBe (zsE S m)) (hw : -2147483648 ≤ w ∧ w < 2147483648) : zCt 13 0 0 yX6_of cX6_of 3 (some .int) [zr 145, zi m, zi w] n σ (some (zi (zof6 (zsE S m) (zsT S m) w))) n σ := by
  have h7 : w = 0 ∨ w = 1 ∨ w = 2 ∨ w = 3 ∨ w = 4 ∨ w = 5 ∨ w = 6 ∨ w = 7 ∨ w = 8 ∨ w = 9 ∨ w = 10 ∨ w < 0 ∨ 10 < w := by omega
  obtain ⟨⟨um, L, p, wl, lv, br, bc, hM⟩, hS0, hn⟩ := id h
  refine zCt.of (by decide) rfl (Nat.le_of_ble_eq_true rfl) (fun K C => ?_)
  refine x_aload_n C dX6_of_0 rfl ?_
  refine x_iconst C dX6_of_1 ?_
  refine x_putI C dX6_of_2 lfX6_41 lyX6_0 hM (by omega) (Nat.le_of_ble_eq_true rfl) ?_
  refine x_nm (fun s2 e2 => ?_)
  rw [show s2 = σ from e2.trans (zsu_self hM)]
  clear e2 s2
  refine x_iload_n C dX6_of_5 rfl ?_
  refine x_callS C dX6_of_6 (ctX6_isMatrix _ (by omega)) okX6_isMatrix lkX6_104 ⟨by decide, rfl, rfl, Nat.le_of_ble_eq_true rfl⟩ rfl (Or.inl ⟨rfl, rfl⟩) ?_
  refine x_ifne_d (tgt := 14) C dX6_of_9 (by decide) (fun c9 => ?_) (fun c9 => ?_)
  · refine x_iload_n C dX6_of_14 rfl ?_
    rcases h7 with rfl | rfl | rfl | rfl | rfl | rfl | rfl | rfl | rfl | rfl | rfl | hw
    · refine x_tableIn (tgt := 72) C dX6_of_15 (by decide) rfl (by decide) ?_
      refine x_aload_n C dX6_of_72 rfl ?_
      refine x_iload_n C dX6_of_73 rfl ?_
      refine x_callV C dX6_of_74 (ctX6_room h hS m hm) okX6_room lkX6_78 ⟨⟨hM, rfl, rfl⟩, (by omega)⟩ ⟨by decide, rfl, rfl, Nat.le_of_ble_eq_true rfl⟩ rfl (Or.inl ⟨rfl, rfl⟩) ?_
      exact x_iret (st := []) C dX6_of_77 rfl ⟨congrArg (fun z => some (zi z)) (by unfold zof6; first | rw [if_pos (by omega)] | rw [if_neg (by omega), if_pos (by omega)] | rw [if_neg (by omega), if_neg (by omega), if_pos (by omega)] | rw [if_neg (by omega), if_neg (by omega), if_neg (by omega), if_pos (by omega)] | rw [if_neg (by omega), if_neg (by omega), if_neg (by omega), if_neg (by omega)]), rfl, rfl, rfl⟩
    · refine x_tableIn (tgt := 78) C dX6_of_15 (by decide) rfl (by decide) ?_
      refine x_aload_n C dX6_of_78 rfl ?_
      refine x_iload_n C dX6_of_79 rfl ?_
      refine x_iload_n C dX6_of_80 rfl ?_
      refine x_callV C dX6_of_81 (ctX6_overBlocks h hS m _ hm (by decide)) okX6_overBlocks lkX6_155 ⟨⟨hM, rfl, rfl⟩, (by omega)⟩ ⟨by decide, rfl, rfl, Nat.le_of_ble_eq_true rfl⟩ rfl (Or.inl ⟨rfl, rfl⟩) ?_
      exact x_iret (st := []) C dX6_of_84 rfl ⟨congrArg (fun z => some (zi z)) (by unfold zof6; first | rw [if_pos (by omega)] | rw [if_neg (by omega), if_pos (by omega)] | rw [if_neg (by omega), if_neg (by omega), if_pos (by omega)] | rw [if_neg (by omega), if_neg (by omega), if_neg (by omega), if_pos (by omega)] | rw [if_neg (by omega), if_neg (by omega), if_neg (by omega), if_neg (by omega)]), rfl, rfl, rfl⟩
    · refine x_tableIn (tgt := 78) C dX6_of_15 (by decide) rfl (by decide) ?_
      refine x_aload_n C dX6_of_78 rfl ?_
      refine x_iload_n C dX6_of_79 rfl ?_
      refine x_iload_n C dX6_of_80 rfl ?_
      refine x_callV C dX6_of_81 (ctX6_overBlocks h hS m _ hm (by decide)) okX6_overBlocks lkX6_155 ⟨⟨hM, rfl, rfl⟩, (by omega)⟩ ⟨by decide, rfl, rfl, Nat.le_of_ble_eq_true rfl⟩ rfl (Or.inl ⟨rfl, rfl⟩) ?_
      exact x_iret (st := []) C dX6_of_84 rfl ⟨congrArg (fun z => some (zi z)) (by unfold zof6; first | rw [if_pos (by omega)] | rw [if_neg (by omega), if_pos (by omega)] | rw [if_neg (by omega), if_neg (by omega), if_pos (by omega)] | rw [if_neg (by omega), if_neg (by omega), if_neg (by omega), if_pos (by omega)] | rw [if_neg (by omega), if_neg (by omega), if_neg (by omega), if_neg (by omega)]), rfl, rfl, rfl⟩
    · refine x_tableIn (tgt := 78) C dX6_of_15 (by decide) rfl (by decide) ?_
      refine x_aload_n C dX6_of_78 rfl ?_
      refine x_iload_n C dX6_of_79 rfl ?_
      refine x_iload_n C dX6_of_80 rfl ?_
      refine x_callV C dX6_of_81 (ctX6_overBlocks h hS m _ hm (by decide)) okX6_overBlocks lkX6_155 ⟨⟨hM, rfl, rfl⟩, (by omega)⟩ ⟨by decide, rfl, rfl, Nat.le_of_ble_eq_true rfl⟩ rfl (Or.inl ⟨rfl, rfl⟩) ?_
      exact x_iret (st := []) C dX6_of_84 rfl ⟨congrArg (fun z => some (zi z)) (by unfold zof6; first | rw [if_pos (by omega)] | rw [if_neg (by omega), if_pos (by omega)] | rw [if_neg (by omega), if_neg (by omega), if_pos (by omega)] | rw [if_neg (by omega), if_neg (by omega), if_neg (by omega), if_pos (by omega)] | rw [if_neg (by omega), if_neg (by omega), if_neg (by omega), if_neg (by omega)]), rfl, rfl, rfl⟩
    · refine x_tableIn (tgt := 78) C dX6_of_15 (by decide) rfl (by decide) ?_
      refine x_aload_n C dX6_of_78 rfl ?_
      refine x_iload_n C dX6_of_79 rfl ?_
      refine x_iload_n C dX6_of_80 rfl ?_
      refine x_callV C dX6_of_81 (ctX6_overBlocks h hS m _ hm (by decide)) okX6_overBlocks lkX6_155 ⟨⟨hM, rfl, rfl⟩, (by omega)⟩ ⟨by decide, rfl, rfl, Nat.le_of_ble_eq_true rfl⟩ rfl (Or.inl ⟨rfl, rfl⟩) ?_
      exact x_iret (st := []) C dX6_of_84 rfl ⟨congrArg (fun z => some (zi z)) (by unfold zof6; first | rw [if_pos (by omega)] | rw [if_neg (by omega), if_pos (by omega)] | rw [if_neg (by omega), if_neg (by omega), if_pos (by omega)] | rw [if_neg (by omega), if_neg (by omega), if_neg (by omega), if_pos (by omega)] | rw [if_neg (by omega), if_neg (by omega), if_neg (by omega), if_neg (by omega)]), rfl, rfl, rfl⟩
    · refine x_tableIn (tgt := 78) C dX6_of_15 (by decide) rfl (by decide) ?_
      refine x_aload_n C dX6_of_78 rfl ?_
      refine x_iload_n C dX6_of_79 rfl ?_
      refine x_iload_n C dX6_of_80 rfl ?_
      refine x_callV C dX6_of_81 (ctX6_overBlocks h hS m _ hm (by decide)) okX6_overBlocks lkX6_155 ⟨⟨hM, rfl, rfl⟩, (by omega)⟩ ⟨by decide, rfl, rfl, Nat.le_of_ble_eq_true rfl⟩ rfl (Or.inl ⟨rfl, rfl⟩) ?_
      exact x_iret (st := []) C dX6_of_84 rfl ⟨congrArg (fun z => some (zi z)) (by unfold zof6; first | rw [if_pos (by omega)] | rw [if_neg (by omega), if_pos (by omega)] | rw [if_neg (by omega), if_neg (by omega), if_pos (by omega)] | rw [if_neg (by omega), if_neg (by omega), if_neg (by omega), if_pos (by omega)] | rw [if_neg (by omega), if_neg (by omega), if_neg (by omega), if_neg (by omega)]), rfl, rfl, rfl⟩
    · refine x_tableIn (tgt := 94) C dX6_of_15 (by decide) rfl (by decide) ?_
      refine x_aload_n C dX6_of_94 rfl ?_
      refine x_iload_n C dX6_of_95 rfl ?_
      refine x_iload_n C dX6_of_96 rfl ?_
      refine x_callV C dX6_of_97 (ctX6_overEntries h m _ hm he (by decide)) okX6_overEntries lkX6_158 ⟨⟨hM, rfl, rfl⟩, (by omega)⟩ ⟨by decide, rfl, rfl, Nat.le_of_ble_eq_true rfl⟩ rfl (Or.inl ⟨rfl, rfl⟩) ?_
      exact x_iret (st := []) C dX6_of_100 rfl ⟨congrArg (fun z => some (zi z)) (by unfold zof6; first | rw [if_pos (by omega)] | rw [if_neg (by omega), if_pos (by omega)] | rw [if_neg (by omega), if_neg (by omega), if_pos (by omega)] | rw [if_neg (by omega), if_neg (by omega), if_neg (by omega), if_pos (by omega)] | rw [if_neg (by omega), if_neg (by omega), if_neg (by omega), if_neg (by omega)]), rfl, rfl, rfl⟩
    · refine x_tableIn (tgt := 85) C dX6_of_15 (by decide) rfl (by decide) ?_
      refine x_aload_n C dX6_of_85 rfl ?_
      refine x_iload_n C dX6_of_86 rfl ?_
      refine x_callV C dX6_of_87 (ctX6_trace h m hm) okX6_trace lkX6_148 ⟨⟨hM, rfl, rfl⟩, (by omega)⟩ ⟨by decide, rfl, rfl, Nat.le_of_ble_eq_true rfl⟩ rfl (Or.inl ⟨rfl, rfl⟩) ?_
      refine x_ldc (v := 100000000) C dX6_of_90 kcX6_151 (by decide) ?_
      refine x_iadd C dX6_of_92 ?_
      exact x_iret (st := []) C dX6_of_93 rfl ⟨congrArg (fun z => some (zi z)) (by unfold zof6; first | rw [if_pos (by omega)] | rw [if_neg (by omega), if_pos (by omega)] | rw [if_neg (by omega), if_neg (by omega), if_pos (by omega)] | rw [if_neg (by omega), if_neg (by omega), if_neg (by omega), if_pos (by omega)] | rw [if_neg (by omega), if_neg (by omega), if_neg (by omega), if_neg (by omega)]), rfl, rfl, rfl⟩
    · refine x_tableIn (tgt := 94) C dX6_of_15 (by decide) rfl (by decide) ?_
      refine x_aload_n C dX6_of_94 rfl ?_
      refine x_iload_n C dX6_of_95 rfl ?_
      refine x_iload_n C dX6_of_96 rfl ?_
      refine x_callV C dX6_of_97 (ctX6_overEntries h m _ hm he (by decide)) okX6_overEntries lkX6_158 ⟨⟨hM, rfl, rfl⟩, (by omega)⟩ ⟨by decide, rfl, rfl, Nat.le_of_ble_eq_true rfl⟩ rfl (Or.inl ⟨rfl, rfl⟩) ?_
      exact x_iret (st := []) C dX6_of_100 rfl ⟨congrArg (fun z => some (zi z)) (by unfold zof6; first | rw [if_pos (by omega)] | rw [if_neg (by omega), if_pos (by omega)] | rw [if_neg (by omega), if_neg (by omega), if_pos (by omega)] | rw [if_neg (by omega), if_neg (by omega), if_neg (by omega), if_pos (by omega)] | rw [if_neg (by omega), if_neg (by omega), if_neg (by omega), if_neg (by omega)]), rfl, rfl, rfl⟩
    · refine x_tableIn (tgt := 94) C dX6_of_15 (by decide) rfl (by decide) ?_
      refine x_aload_n C dX6_of_94 rfl ?_
      refine x_iload_n C dX6_of_95 rfl ?_
      refine x_iload_n C dX6_of_96 rfl ?_
      refine x_callV C dX6_of_97 (ctX6_overEntries h m _ hm he (by decide)) okX6_overEntries lkX6_158 ⟨⟨hM, rfl, rfl⟩, (by omega)⟩ ⟨by decide, rfl, rfl, Nat.le_of_ble_eq_true rfl⟩ rfl (Or.inl ⟨rfl, rfl⟩) ?_
      exact x_iret (st := []) C dX6_of_100 rfl ⟨congrArg (fun z => some (zi z)) (by unfold zof6; first | rw [if_pos (by omega)] | rw [if_neg (by omega), if_pos (by omega)] | rw [if_neg (by omega), if_neg (by omega), if_pos (by omega)] | rw [if_neg (by omega), if_neg (by omega), if_neg (by omega), if_pos (by omega)] | rw [if_neg (by omega), if_neg (by omega), if_neg (by omega), if_neg (by omega)]), rfl, rfl, rfl⟩
    · refine x_tableIn (tgt := 94) C dX6_of_15 (by decide) rfl (by decide) ?_
      refine x_aload_n C dX6_of_94 rfl ?_
      refine x_iload_n C dX6_of_95 rfl ?_
      refine x_iload_n C dX6_of_96 rfl ?_
      refine x_callV C dX6_of_97 (ctX6_overEntries h m _ hm he (by decide)) okX6_overEntries lkX6_158 ⟨⟨hM, rfl, rfl⟩, (by omega)⟩ ⟨by decide, rfl, rfl, Nat.le_of_ble_eq_true rfl⟩ rfl (Or.inl ⟨rfl, rfl⟩) ?_
      exact x_iret (st := []) C dX6_of_100 rfl ⟨congrArg (fun z => some (zi z)) (by unfold zof6; first | rw [if_pos (by omega)] | rw [if_neg (by omega), if_pos (by omega)] | rw [if_neg (by omega), if_neg (by omega), if_pos (by omega)] | rw [if_neg (by omega), if_neg (by omega), if_neg (by omega), if_pos (by omega)] | rw [if_neg (by omega), if_neg (by omega), if_neg (by omega), if_neg (by omega)]), rfl, rfl, rfl⟩
    · refine x_tableOut (tgt := 101) C dX6_of_15 (by omega) (by decide) ?_
      refine x_bipush C dX6_of_101 (by decide) ?_
      exact x_iret (st := []) C dX6_of_103 rfl ⟨congrArg (fun z => some (zi z)) (by unfold zof6; first | rw [if_pos (by omega)] | rw [if_neg (by omega), if_pos (by omega)] | rw [if_neg (by omega), if_neg (by omega), if_pos (by omega)] | rw [if_neg (by omega), if_neg (by omega), if_neg (by omega), if_pos (by omega)] | rw [if_neg (by omega), if_neg (by omega), if_neg (by omega), if_neg (by omega)]), rfl, rfl, rfl⟩
  · exfalso; omega
def zco6 (S : Int → Int) (L um w : Int) : Int := if w = 0 then zsm (fun m => zrmF (zsT S m) 0 0 0) 4 else if w = 1 then zempt (fun m => zsT S m) 4 else if w = 2 then S 1364 else if w = 3 then L else if w = 4 then um else -2
theorem ctX6_count (hM : σ 145 = zMO um L p wl lv br bc) (hS0 : σ 146 = zA 1365 S) (hn : 155 ≤ n) (hS : isSo S) (w : Int) (hw : -2147483648 ≤ w ∧ w < 2147483648) : zCt 13 0 0 yX6_count cX6_count 2 (some .int) [zr 145, zi w] n σ (some (zi (zco6 S L um w))) n σ := by
  have h : isMo σ n S := ⟨⟨um, L, p, wl, lv, br, bc, hM⟩, hS0, hn⟩
  have h7 : w = 0 ∨ w = 1 ∨ w = 2 ∨ w = 3 ∨ w = 4 ∨ w < 0 ∨ 4 < w := by omega
  refine zCt.of (by decide) rfl (Nat.le_of_ble_eq_true rfl) (fun K C => ?_)
  refine x_aload_n C dX6_count_0 rfl ?_
  refine x_iconst C dX6_count_1 ?_
  refine x_putI C dX6_count_2 lfX6_41 lyX6_0 hM (by omega) (Nat.le_of_ble_eq_true rfl) ?_
  refine x_nm (fun s2 e2 => ?_)
  rw [show s2 = σ from e2.trans (zsu_self hM)]
  clear e2 s2
  refine x_iload_n C dX6_count_5 rfl ?_
  rcases h7 with rfl | rfl | rfl | rfl | rfl | hw
  · refine x_tableIn (tgt := 40) C dX6_count_6 (by decide) rfl (by decide) ?_
    refine x_aload_n C dX6_count_40 rfl ?_
    refine x_callV C dX6_count_41 (ctX6_allRoom h hS) okX6_allRoom lkX6_178 ⟨⟨hM, rfl, rfl⟩, (by omega)⟩ ⟨by decide, rfl, rfl, Nat.le_of_ble_eq_true rfl⟩ rfl (Or.inl ⟨rfl, rfl⟩) ?_
    exact x_iret (st := []) C dX6_count_44 rfl ⟨congrArg (fun z => some (zi z)) (by first | rfl | omega), rfl, rfl, rfl⟩
  · refine x_tableIn (tgt := 45) C dX6_count_6 (by decide) rfl (by decide) ?_
    refine x_aload_n C dX6_count_45 rfl ?_
    refine x_callV C dX6_count_46 (ctX6_emptyOnes h hS) okX6_emptyOnes lkX6_181 ⟨⟨hM, rfl, rfl⟩, (by omega)⟩ ⟨by decide, rfl, rfl, Nat.le_of_ble_eq_true rfl⟩ rfl (Or.inl ⟨rfl, rfl⟩) ?_
    exact x_iret (st := []) C dX6_count_49 rfl ⟨congrArg (fun z => some (zi z)) (by first | rfl | omega), rfl, rfl, rfl⟩
  · refine x_tableIn (tgt := 50) C dX6_count_6 (by decide) rfl (by decide) ?_
    refine x_aload_n C dX6_count_50 rfl ?_
    refine x_getfield C dX6_count_51 lfX6_7 hM (by omega) rfl ?_
    refine x_sipush C dX6_count_54 (by decide) ?_
    refine x_iaload C dX6_count_57 hS0 (by omega) ?_
    exact x_iret (st := []) C dX6_count_58 rfl ⟨congrArg (fun z => some (zi z)) (by first | rfl | omega), rfl, rfl, rfl⟩
  · refine x_tableIn (tgt := 59) C dX6_count_6 (by decide) rfl (by decide) ?_
    refine x_aload_n C dX6_count_59 rfl ?_
    refine x_getfield C dX6_count_60 lfX6_115 hM (by omega) rfl ?_
    exact x_iret (st := []) C dX6_count_63 rfl ⟨congrArg (fun z => some (zi z)) (by first | rfl | omega), rfl, rfl, rfl⟩
  · refine x_tableIn (tgt := 64) C dX6_count_6 (by decide) rfl (by decide) ?_
    refine x_aload_n C dX6_count_64 rfl ?_
    refine x_getfield C dX6_count_65 lfX6_53 hM (by omega) rfl ?_
    exact x_iret (st := []) C dX6_count_68 rfl ⟨congrArg (fun z => some (zi z)) (by first | rfl | omega), rfl, rfl, rfl⟩
  · refine x_tableOut (tgt := 69) C dX6_count_6 (by omega) (by decide) ?_
    refine x_bipush C dX6_count_69 (by decide) ?_
    exact x_iret (st := []) C dX6_count_71 rfl ⟨congrArg (fun z => some (zi z)) (by unfold zco6; repeat rw [if_neg (by omega)]), rfl, rfl, rfl⟩
theorem ctX6_product (h : isMo σ n S) (m row a b : Int) (hm : (0 ≤ m ∧ m < 4)) (he : zBe (zsE S m)) (hr : 0 ≤ row ∧ row < 16) (ha : -9999 ≤ a ∧ a ≤ 9999) (hb : -999 ≤ b ∧ b ≤ 999) : zCt 13 0 0 yX6_product cX6_product 8 (some .long) [zr 145, zi m, zi row, zi a, zi b] n σ (some (zl (zsm (fun k => zsE S m (row * 16 + k) * (a + b * k)) 16))) n σ := by
  obtain ⟨⟨um, L, p, wl, lv, br, bc, hM⟩, hS0, hn⟩ := id h
  refine zCt.of (by decide) rfl (Nat.le_of_ble_eq_true rfl) (fun K C => ?_)
  have loop : ∀ k : Nat, k ≤ 16 → K 59 [some (zr 145), some (zi m), some (zi row), some (zi a), some (zi b), some (zl (zsm (fun k => zsE S m (row * 16 + k) * (a + b * k)) k)), none, some (zi (k : Int))] [] n σ 0 := by
    refine zloop _ 16 (fun k hk ih => ?_)
    refine x_iload C dX6_product_59 rfl ?_
    refine x_bipush C dX6_product_61 (by decide) ?_
    refine x_icmp_ge (tgt := 95) C dX6_product_63 (by decide) (by omega) (fun c63 => ?_) (fun c63 => ?_)
    · refine x_lload C dX6_product_95 rfl ?_
      exact x_lret (st := []) C dX6_product_97 rfl ⟨congrArg (fun z => some (zl z)) (by rw [show k = 16 by omega]), rfl, rfl, rfl⟩
    · have b1 := he.m (row := row) (col := k) hr (by omega)
      have b2 : -15984 ≤ b * (k : Int) ∧ b * (k : Int) ≤ 15984 := by
        have z1 : b.natAbs ≤ 999 := by omega
        have z2 : (k : Int).natAbs ≤ 16 := by omega
        have z3 : (b * (k : Int)).natAbs ≤ 999 * 16 := by
          rw [Int.natAbs_mul]
          exact Nat.mul_le_mul z1 z2
        omega
      refine x_lload C dX6_product_66 rfl ?_
      refine x_aload_n C dX6_product_68 rfl ?_
      refine x_iload_n C dX6_product_69 rfl ?_
      refine x_iload_n C dX6_product_70 rfl ?_
      refine x_iload C dX6_product_71 rfl ?_
      refine x_callV C dX6_product_73 (ctX6_get h m row k hm hr (by omega)) okX6_get lkX6_81 ⟨⟨hM, rfl, rfl⟩, (by omega)⟩ ⟨by decide, rfl, rfl, Nat.le_of_ble_eq_true rfl⟩ rfl (Or.inl ⟨rfl, rfl⟩) ?_
      refine x_i2l C dX6_product_76 (by omega) ?_
      refine x_iload_n C dX6_product_77 rfl ?_
      refine x_iload C dX6_product_78 rfl ?_
      refine x_iload C dX6_product_80 rfl ?_
      refine x_imul C dX6_product_82 ?_
      refine x_iadd C dX6_product_83 ?_
      refine x_i2l C dX6_product_84 (by omega) ?_
      refine x_lmul C dX6_product_85 ?_
      refine x_ladd C dX6_product_86 ?_
      refine x_lstore C dX6_product_87 (by decide) ?_
      refine x_iinc C dX6_product_89 rfl (by decide) ?_
      refine x_goto (tgt := 59) C dX6_product_92 (by decide) ?_
      exact ih (by omega)
  refine x_aload_n C dX6_product_0 rfl ?_
  refine x_iconst C dX6_product_1 ?_
  refine x_putI C dX6_product_2 lfX6_41 lyX6_0 hM (by omega) (Nat.le_of_ble_eq_true rfl) ?_
  refine x_nm (fun s2 e2 => ?_)
  rw [show s2 = σ from e2.trans (zsu_self hM)]
  clear e2 s2
  refine x_iload_n C dX6_product_5 rfl ?_
  refine x_callS C dX6_product_6 (ctX6_isMatrix _ (by omega)) okX6_isMatrix lkX6_104 ⟨by decide, rfl, rfl, Nat.le_of_ble_eq_true rfl⟩ rfl (Or.inl ⟨rfl, rfl⟩) ?_
  refine x_ifeq_d (tgt := 49) C dX6_product_9 (by decide) (fun c9 => ?_) (fun c9 => ?_)
  · exfalso; omega
  · refine x_iload_n C dX6_product_12 rfl ?_
    refine x_iconst C dX6_product_13 ?_
    refine x_bipush C dX6_product_14 (by decide) ?_
    refine x_callS C dX6_product_16 (ctX6_in _ _ _ (by omega) (by omega) (by omega)) okX6_in lkX6_45 ⟨by decide, rfl, rfl, Nat.le_of_ble_eq_true rfl⟩ rfl (Or.inl ⟨rfl, rfl⟩) ?_
    refine x_ifeq_d (tgt := 49) C dX6_product_19 (by decide) (fun c19 => ?_) (fun c19 => ?_)
    · exfalso; omega
    · refine x_iload_n C dX6_product_22 rfl ?_
      refine x_sipush C dX6_product_23 (by decide) ?_
      refine x_sipush C dX6_product_26 (by decide) ?_
      refine x_callS C dX6_product_29 (ctX6_in _ _ _ (by omega) (by omega) (by omega)) okX6_in lkX6_45 ⟨by decide, rfl, rfl, Nat.le_of_ble_eq_true rfl⟩ rfl (Or.inl ⟨rfl, rfl⟩) ?_
      refine x_ifeq_d (tgt := 49) C dX6_product_32 (by decide) (fun c32 => ?_) (fun c32 => ?_)
      · exfalso; omega
      · refine x_iload C dX6_product_35 rfl ?_
        refine x_sipush C dX6_product_37 (by decide) ?_
        refine x_sipush C dX6_product_40 (by decide) ?_
        refine x_callS C dX6_product_43 (ctX6_in _ _ _ (by omega) (by omega) (by omega)) okX6_in lkX6_45 ⟨by decide, rfl, rfl, Nat.le_of_ble_eq_true rfl⟩ rfl (Or.inl ⟨rfl, rfl⟩) ?_
        refine x_ifne_d (tgt := 53) C dX6_product_46 (by decide) (fun c46 => ?_) (fun c46 => ?_)
        · refine x_lconst C dX6_product_53 ?_
          refine x_lstore C dX6_product_54 (by decide) ?_
          refine x_iconst C dX6_product_56 ?_
          refine x_istore C dX6_product_57 (by decide) ?_
          exact loop 0 (by omega)
        · exfalso; omega
theorem ctX6_far (h : isMo σ n S) (m q : Int) (hm : (0 ≤ m ∧ m < 4)) (hq : (0 ≤ q ∧ q < 4)) (he : zBe (zsE S m)) (he2 : zBe (zsE S q)) : zCt 13 0 0 yX6_far cX6_far 6 (some .int) [zr 145, zi m, zi q] n σ (some (zi (zfo (fun y k => max y (max (zsE S m k - zsE S q k) (-(zsE S m k - zsE S q k)))) 0 256))) n σ := by
  obtain ⟨⟨um, L, p, wl, lv, br, bc, hM⟩, hS0, hn⟩ := id h
  refine zCt.of (by decide) rfl (Nat.le_of_ble_eq_true rfl) (fun K C => ?_)
  have hget : ∀ m : Int, (0 ≤ m ∧ m < 4) → ∀ i j : Int, (0 ≤ i ∧ i < 16) → (0 ≤ j ∧ j < 16) → zCt 1 0 0 yX6_get cX6_get 4 (some .int) [zr 145, zi m, zi i, zi j] n σ (some (zi (zsE S m (i * 16 + j)))) n σ := fun m hm i j hi hj => ctX6_get h m i j hm hi hj
  have hg1 := hget m hm
  have hg2 := hget q hq
  generalize zsE S m = e at *
  generalize zsE S q = e2 at *
  have loop : ∀ k : Nat, k ≤ 256 → (0 ≤ zfo (fun y k => max y (max (e k - e2 k) (-(e k - e2 k)))) 0 k ∧ zfo (fun y k => max y (max (e k - e2 k) (-(e k - e2 k)))) 0 k ≤ 2000000) → K 26 [some (zr 145), some (zi m), some (zi q), some (zi (zfo (fun y k => max y (max (e k - e2 k) (-(e k - e2 k)))) 0 k)), some (zi (k : Int)), none] [] n σ 0 := by
    refine zloop _ 256 (fun k hk ih => ?_)
    intro hb
    have eT : zfo (fun y k => max y (max (e k - e2 k) (-(e k - e2 k)))) 0 (k + 1) = max (zfo (fun y k => max y (max (e k - e2 k) (-(e k - e2 k)))) 0 k) (max (e k - e2 k) (-(e k - e2 k))) := rfl
    generalize hY : zfo (fun y k => max y (max (e k - e2 k) (-(e k - e2 k)))) 0 k = y at *
    rw [eT] at ih
    refine x_iload C dX6_far_26 rfl ?_
    refine x_sipush C dX6_far_28 (by decide) ?_
    refine x_icmp_ge (tgt := 101) C dX6_far_31 (by decide) (by omega) (fun c31 => ?_) (fun c31 => ?_)
    · refine x_iload_n C dX6_far_101 rfl ?_
      exact x_iret (st := []) C dX6_far_102 rfl ⟨congrArg (fun z => some (zi z)) (by rw [← hY, show k = 256 by omega]), rfl, rfl, rfl⟩
    · have b1 := he k (by omega) (by omega)
      have b2 := he2 k (by omega) (by omega)
      have e3 : (k : Int) / 16 * 16 + (k : Int) % 16 = k := by omega
      refine x_aload_n C dX6_far_34 rfl ?_
      refine x_iload_n C dX6_far_35 rfl ?_
      refine x_iload C dX6_far_36 rfl ?_
      refine x_bipush C dX6_far_38 (by decide) ?_
      refine x_idiv C dX6_far_40 (by omega) ?_
      refine x_iload C dX6_far_41 rfl ?_
      refine x_bipush C dX6_far_43 (by decide) ?_
      refine x_irem C dX6_far_45 (by omega) ?_
      refine x_callV C dX6_far_46 (hg1 _ _ (by omega) (by omega)) okX6_get lkX6_81 ⟨⟨hM, rfl, rfl⟩, (by omega)⟩ ⟨by decide, rfl, rfl, Nat.le_of_ble_eq_true rfl⟩ rfl (Or.inl ⟨rfl, rfl⟩) ?_
      refine x_aload_n C dX6_far_49 rfl ?_
      refine x_iload_n C dX6_far_50 rfl ?_
      refine x_iload C dX6_far_51 rfl ?_
      refine x_bipush C dX6_far_53 (by decide) ?_
      refine x_idiv C dX6_far_55 (by omega) ?_
      refine x_iload C dX6_far_56 rfl ?_
      refine x_bipush C dX6_far_58 (by decide) ?_
      refine x_irem C dX6_far_60 (by omega) ?_
      refine x_callV C dX6_far_61 (hg2 _ _ (by omega) (by omega)) okX6_get lkX6_81 ⟨⟨hM, rfl, rfl⟩, (by omega)⟩ ⟨by decide, rfl, rfl, Nat.le_of_ble_eq_true rfl⟩ rfl (Or.inl ⟨rfl, rfl⟩) ?_
      rw [e3]
      refine x_isub C dX6_far_64 ?_
      refine x_istore C dX6_far_65 (by decide) ?_
      refine x_iload C dX6_far_67 rfl ?_
      refine x_if_ge (tgt := 78) C dX6_far_69 (by decide) (by omega) (fun c69 => ?_) (fun c69 => ?_)
      · refine x_iload C dX6_far_78 rfl ?_
        refine x_istore C dX6_far_80 (by decide) ?_
        refine x_iload C dX6_far_82 rfl ?_
        refine x_iload_n C dX6_far_84 rfl ?_
        refine x_icmp_le (tgt := 93) C dX6_far_85 (by decide) (by omega) (fun c85 => ?_) (fun c85 => ?_)
        · refine x_iload_n C dX6_far_93 rfl ?_
          have ih := ih (by omega) (by omega)
          first | rw [show max y (max (e k - e2 k) (-(e k - e2 k))) = y by omega] at ih | rw [show max y (max (e k - e2 k) (-(e k - e2 k))) = e k - e2 k by omega] at ih | rw [show max y (max (e k - e2 k) (-(e k - e2 k))) = -(e k - e2 k) by omega] at ih
          refine x_istore_n C dX6_far_94 (by decide) ?_
          refine x_iinc C dX6_far_95 rfl (by decide) ?_
          refine x_goto (tgt := 26) C dX6_far_98 (by decide) ?_
          exact x_wk C rfl ih
        · refine x_iload C dX6_far_88 rfl ?_
          refine x_goto (tgt := 94) C dX6_far_90 (by decide) ?_
          have ih := ih (by omega) (by omega)
          first | rw [show max y (max (e k - e2 k) (-(e k - e2 k))) = y by omega] at ih | rw [show max y (max (e k - e2 k) (-(e k - e2 k))) = e k - e2 k by omega] at ih | rw [show max y (max (e k - e2 k) (-(e k - e2 k))) = -(e k - e2 k) by omega] at ih
          refine x_istore_n C dX6_far_94 (by decide) ?_
          refine x_iinc C dX6_far_95 rfl (by decide) ?_
          refine x_goto (tgt := 26) C dX6_far_98 (by decide) ?_
          exact x_wk C rfl ih
      · refine x_iload C dX6_far_72 rfl ?_
        refine x_ineg C dX6_far_74 ?_
        refine x_goto (tgt := 80) C dX6_far_75 (by decide) ?_
        refine x_istore C dX6_far_80 (by decide) ?_
        refine x_iload C dX6_far_82 rfl ?_
        refine x_iload_n C dX6_far_84 rfl ?_
        refine x_icmp_le (tgt := 93) C dX6_far_85 (by decide) (by omega) (fun c85 => ?_) (fun c85 => ?_)
        · refine x_iload_n C dX6_far_93 rfl ?_
          have ih := ih (by omega) (by omega)
          first | rw [show max y (max (e k - e2 k) (-(e k - e2 k))) = y by omega] at ih | rw [show max y (max (e k - e2 k) (-(e k - e2 k))) = e k - e2 k by omega] at ih | rw [show max y (max (e k - e2 k) (-(e k - e2 k))) = -(e k - e2 k) by omega] at ih
          refine x_istore_n C dX6_far_94 (by decide) ?_
          refine x_iinc C dX6_far_95 rfl (by decide) ?_
          refine x_goto (tgt := 26) C dX6_far_98 (by decide) ?_
          exact x_wk C rfl ih
        · refine x_iload C dX6_far_88 rfl ?_
          refine x_goto (tgt := 94) C dX6_far_90 (by decide) ?_
          have ih := ih (by omega) (by omega)
          first | rw [show max y (max (e k - e2 k) (-(e k - e2 k))) = y by omega] at ih | rw [show max y (max (e k - e2 k) (-(e k - e2 k))) = e k - e2 k by omega] at ih | rw [show max y (max (e k - e2 k) (-(e k - e2 k))) = -(e k - e2 k) by omega] at ih
          refine x_istore_n C dX6_far_94 (by decide) ?_
          refine x_iinc C dX6_far_95 rfl (by decide) ?_
          refine x_goto (tgt := 26) C dX6_far_98 (by decide) ?_
          exact x_wk C rfl ih
  refine x_aload_n C dX6_far_0 rfl ?_
  refine x_iconst C dX6_far_1 ?_
  refine x_putI C dX6_far_2 lfX6_41 lyX6_0 hM (by omega) (Nat.le_of_ble_eq_true rfl) ?_
  refine x_nm (fun s2 e2 => ?_)
  rw [show s2 = σ from e2.trans (zsu_self hM)]
  clear e2 s2
  refine x_iload_n C dX6_far_5 rfl ?_
  refine x_callS C dX6_far_6 (ctX6_isMatrix _ (by omega)) okX6_isMatrix lkX6_104 ⟨by decide, rfl, rfl, Nat.le_of_ble_eq_true rfl⟩ rfl (Or.inl ⟨rfl, rfl⟩) ?_
  refine x_ifeq_d (tgt := 19) C dX6_far_9 (by decide) (fun c9 => ?_) (fun c9 => ?_)
  · exfalso; omega
  · refine x_iload_n C dX6_far_12 rfl ?_
    refine x_callS C dX6_far_13 (ctX6_isMatrix _ (by omega)) okX6_isMatrix lkX6_104 ⟨by decide, rfl, rfl, Nat.le_of_ble_eq_true rfl⟩ rfl (Or.inl ⟨rfl, rfl⟩) ?_
    refine x_ifne_d (tgt := 21) C dX6_far_16 (by decide) (fun c16 => ?_) (fun c16 => ?_)
    · refine x_iconst C dX6_far_21 ?_
      refine x_istore_n C dX6_far_22 (by decide) ?_
      refine x_iconst C dX6_far_23 ?_
      refine x_istore C dX6_far_24 (by decide) ?_
      exact loop 0 (by omega) (show 0 ≤ (0 : Int) ∧ (0 : Int) ≤ 2000000 by decide)
    · exfalso; omega
theorem ctX6_isOne (h : isMo σ n S) (m row col s : Int) (hm : (0 ≤ m ∧ m < 4)) (he : zBe (zsE S m)) (hs : s = 2 ∨ s = 4 ∨ s = 8 ∨ s = 16) (hr : 0 ≤ row ∧ row ≤ 16 - s ∧ row % s = 0) (hc : 0 ≤ col ∧ col ≤ 16 - s ∧ col % s = 0) : zCt 13 0 0 yX6_isOne cX6_isOne 5 (some .int) [zr 145, zi m, zi row, zi col, zi s] n σ (some (zi (zone (zsE S m) row col s))) n σ := by
  obtain ⟨⟨um, L, p, wl, lv, br, bc, hM⟩, hS0, hn⟩ := id h
  obtain ⟨q, rfl⟩ : ∃ q : Nat, s = q := ⟨s.toNat, by omega⟩
  have hO := ctX6_oneness h m row col q hm he (by omega) (by omega)
  refine zCt.of (by decide) rfl (Nat.le_of_ble_eq_true rfl) (fun K C => ?_)
  have part : K 43 [some (zr 145), some (zi m), some (zi row), some (zi col), some (zi (q : Int))] [] n σ 0 := by
    refine x_iload_n C dX6_isOne_43 rfl ?_
    refine x_iconst C dX6_isOne_44 ?_
    refine x_bipush C dX6_isOne_45 (by decide) ?_
    refine x_iload C dX6_isOne_47 rfl ?_
    refine x_isub C dX6_isOne_49 ?_
    refine x_callS C dX6_isOne_50 (ctX6_in _ _ _ (by omega) (by omega) (by omega)) okX6_in lkX6_45 ⟨by decide, rfl, rfl, Nat.le_of_ble_eq_true rfl⟩ rfl (Or.inl ⟨rfl, rfl⟩) ?_
    refine x_ifeq_d (tgt := 83) C dX6_isOne_53 (by decide) (fun c53 => ?_) (fun c53 => ?_)
    · exfalso; omega
    · refine x_iload_n C dX6_isOne_56 rfl ?_
      refine x_iconst C dX6_isOne_57 ?_
      refine x_bipush C dX6_isOne_58 (by decide) ?_
      refine x_iload C dX6_isOne_60 rfl ?_
      refine x_isub C dX6_isOne_62 ?_
      refine x_callS C dX6_isOne_63 (ctX6_in _ _ _ (by omega) (by omega) (by omega)) okX6_in lkX6_45 ⟨by decide, rfl, rfl, Nat.le_of_ble_eq_true rfl⟩ rfl (Or.inl ⟨rfl, rfl⟩) ?_
      refine x_ifeq_d (tgt := 83) C dX6_isOne_66 (by decide) (fun c66 => ?_) (fun c66 => ?_)
      · exfalso; omega
      · refine x_iload_n C dX6_isOne_69 rfl ?_
        refine x_iload C dX6_isOne_70 rfl ?_
        refine x_irem C dX6_isOne_72 (by omega) ?_
        refine x_if_ne (tgt := 83) C dX6_isOne_73 (by decide) (by omega) (fun c73 => ?_) (fun c73 => ?_)
        · exact absurd hr.2.2 c73
        · refine x_iload_n C dX6_isOne_76 rfl ?_
          refine x_iload C dX6_isOne_77 rfl ?_
          refine x_irem C dX6_isOne_79 (by omega) ?_
          refine x_if_eq (tgt := 86) C dX6_isOne_80 (by decide) (by omega) (fun c80 => ?_) (fun c80 => ?_)
          · refine x_aload_n C dX6_isOne_86 rfl ?_
            refine x_iload_n C dX6_isOne_87 rfl ?_
            refine x_iload_n C dX6_isOne_88 rfl ?_
            refine x_iload_n C dX6_isOne_89 rfl ?_
            refine x_iload C dX6_isOne_90 rfl ?_
            refine x_callV C dX6_isOne_92 hO okX6_oneness lkX6_90 ⟨⟨hM, rfl, rfl⟩, (by omega)⟩ ⟨by decide, rfl, rfl, Nat.le_of_ble_eq_true rfl⟩ rfl (Or.inl ⟨rfl, rfl⟩) ?_
            exact x_iret (st := []) C dX6_isOne_95 rfl ⟨congrArg (fun z => some (zi z)) (by first | rfl | omega), rfl, rfl, rfl⟩
          · exact absurd hc.2.2 c80
  refine x_aload_n C dX6_isOne_0 rfl ?_
  refine x_iconst C dX6_isOne_1 ?_
  refine x_putI C dX6_isOne_2 lfX6_41 lyX6_0 hM (by omega) (Nat.le_of_ble_eq_true rfl) ?_
  refine x_nm (fun s2 e2 => ?_)
  rw [show s2 = σ from e2.trans (zsu_self hM)]
  clear e2 s2
  refine x_iload_n C dX6_isOne_5 rfl ?_
  refine x_callS C dX6_isOne_6 (ctX6_isMatrix _ (by omega)) okX6_isMatrix lkX6_104 ⟨by decide, rfl, rfl, Nat.le_of_ble_eq_true rfl⟩ rfl (Or.inl ⟨rfl, rfl⟩) ?_
  refine x_ifne_d (tgt := 14) C dX6_isOne_9 (by decide) (fun c9 => ?_) (fun c9 => ?_)
  · refine x_iload C dX6_isOne_14 rfl ?_
    refine x_iconst C dX6_isOne_16 ?_
    refine x_icmp_eq (tgt := 43) C dX6_isOne_17 (by decide) (by omega) (fun c17 => ?_) (fun c17 => ?_)
    · exact part
    · refine x_iload C dX6_isOne_20 rfl ?_
      refine x_iconst C dX6_isOne_22 ?_
      refine x_icmp_eq (tgt := 43) C dX6_isOne_23 (by decide) (by omega) (fun c23 => ?_) (fun c23 => ?_)
      · exact part
      · refine x_iload C dX6_isOne_26 rfl ?_
        refine x_bipush C dX6_isOne_28 (by decide) ?_
        refine x_icmp_eq (tgt := 43) C dX6_isOne_30 (by decide) (by omega) (fun c30 => ?_) (fun c30 => ?_)
        · exact part
        · refine x_iload C dX6_isOne_33 rfl ?_
          refine x_bipush C dX6_isOne_35 (by decide) ?_
          refine x_icmp_eq (tgt := 43) C dX6_isOne_37 (by decide) (by omega) (fun c37 => ?_) (fun c37 => ?_)
          · exact part
          · exfalso; omega
  · exfalso; omega
/-- the best of many times: it, and how many zeros it makes -/
def zbt6 (g : Int → Int) : Nat → Int × Int := zfo (fun b k => (if b.2 < (if k - 99 = 0 then -1 else g (k - 99)) then k - 99 else b.1, if b.2 < (if k - 99 = 0 then -1 else g (k - 99)) then (if k - 99 = 0 then -1 else g (k - 99)) else b.2)) (0, -1)
theorem zbt6_in {g : Int → Int} (hg : ∀ x, 0 ≤ g x ∧ g x ≤ 256) : ∀ k : Nat, -1 ≤ (zbt6 g k).2 ∧ (zbt6 g k).2 ≤ 256
  | 0 => (by decide : -1 ≤ (-1 : Int) ∧ (-1 : Int) ≤ 256)
  | k + 1 => by
    have ih := zbt6_in hg k
    have h1 := hg ((k : Int) - 99)
    rw [show (zbt6 g (k + 1)).2 = if (zbt6 g k).2 < (if (k : Int) - 99 = 0 then -1 else g ((k : Int) - 99)) then (if (k : Int) - 99 = 0 then -1 else g ((k : Int) - 99)) else (zbt6 g k).2 from rfl]
    have h2 : -1 ≤ (if (k : Int) - 99 = 0 then -1 else g ((k : Int) - 99)) ∧ (if (k : Int) - 99 = 0 then -1 else g ((k : Int) - 99)) ≤ 256 := by
      split <;> omega
    generalize (if (k : Int) - 99 = 0 then -1 else g ((k : Int) - 99)) = v at *
    split <;> omega
theorem zzr_in (e e2 : Int → Int) (x : Int) : 0 ≤ zzr e e2 x 256 ∧ zzr e e2 x 256 ≤ 256 := by
  have h := zsmN (g := fun j => if e j + x * e2 j = 0 then 1 else 0) (M := 1) (fun j => by split <;> decide) 256
  unfold zzr
  omega
theorem ctX6_bestTimes (h : isMo σ n S) (m q w : Int) (hm : (0 ≤ m ∧ m < 4)) (hq : (0 ≤ q ∧ q < 4)) (he : zBe (zsE S m)) (he2 : zBe (zsE S q)) (hw : w = 0 ∨ w = 1) (hne : m ≠ q) : zCt 13 0 0 yX6_bestTimes cX6_bestTimes 8 (some .int) [zr 145, zi m, zi q, zi w] n σ (some (zi (if w = 0 then (zbt6 (fun x => zzr (zsE S m) (zsE S q) x 256) 199).1 + 100 else (zbt6 (fun x => zzr (zsE S m) (zsE S q) x 256) 199).2))) n σ := by
  obtain ⟨⟨um, L, p, wl, lv, br, bc, hM⟩, hS0, hn⟩ := id h
  have hZ : ∀ x : Int, -99 ≤ x ∧ x ≤ 99 → zCt 2 0 0 yX6_zerosBy cX6_zerosBy 6 (some .int) [zr 145, zi m, zi q, zi x] n σ (some (zi (zzr (zsE S m) (zsE S q) x 256))) n σ := fun x hx => ctX6_zerosBy h m q x hm hq hx he he2
  have hg := zzr_in (zsE S m) (zsE S q)
  generalize hG : (fun x => zzr (zsE S m) (zsE S q) x 256) = g
  have hZ : ∀ x : Int, -99 ≤ x ∧ x ≤ 99 → zCt 2 0 0 yX6_zerosBy cX6_zerosBy 6 (some .int) [zr 145, zi m, zi q, zi x] n σ (some (zi (g x))) n σ := fun x hx => by
    rw [← hG]
    exact hZ x hx
  have hg : ∀ x, 0 ≤ g x ∧ g x ≤ 256 := fun x => by
    rw [← hG]
    exact hg x
  refine zCt.of (by decide) rfl (Nat.le_of_ble_eq_true rfl) (fun K C => ?_)
  have loop : ∀ k : Nat, k ≤ 199 → K 48 [some (zr 145), some (zi m), some (zi q), some (zi w), some (zi (zbt6 g k).1), some (zi (zbt6 g k).2), some (zi ((k : Int) - 99)), none] [] n σ 0 := by
    refine zloop _ 199 (fun k hk ih => ?_)
    have hb := zbt6_in hg k
    have hgk := hg ((k : Int) - 99)
    have back : k < 199 → ∀ v : Int, (-1 ≤ v ∧ v ≤ 256) → v = (if (k : Int) - 99 = 0 then -1 else g ((k : Int) - 99)) → K 72 [some (zr 145), some (zi m), some (zi q), some (zi w), some (zi (zbt6 g k).1), some (zi (zbt6 g k).2), some (zi ((k : Int) - 99)), none] [zi v] n σ 0 := by
      intro hk2 v hv hve
      have ih := ih hk2
      rw [show ((k + 1 : Nat) : Int) - 99 = (k : Int) - 99 + 1 by omega] at ih
      have tail : ∀ b1 : Int, zbt6 g (k + 1) = (b1, if (zbt6 g k).2 < v then v else (zbt6 g k).2) → K 88 [some (zr 145), some (zi m), some (zi q), some (zi w), some (zi (zbt6 g k).1), some (zi (zbt6 g k).2), some (zi ((k : Int) - 99)), some (zi v)] [zi b1] n σ 0 := by
        intro b1 hT
        rw [hT] at ih
        clear hT
        generalize zbt6 g k = B at *
        refine x_istore C dX6_bestTimes_88 (by decide) ?_
        refine x_iload C dX6_bestTimes_90 rfl ?_
        refine x_iload C dX6_bestTimes_92 rfl ?_
        refine x_icmp_le (tgt := 102) C dX6_bestTimes_94 (by decide) (by omega) (fun c94 => ?_) (fun c94 => ?_)
        · rw [if_neg (by omega)] at ih
          refine x_iload C dX6_bestTimes_102 rfl ?_
          refine x_istore C dX6_bestTimes_104 (by decide) ?_
          refine x_iinc C dX6_bestTimes_106 rfl (by decide) ?_
          refine x_goto (tgt := 48) C dX6_bestTimes_109 (by decide) ?_
          exact x_wk C rfl ih
        · rw [if_pos (by omega)] at ih
          refine x_iload C dX6_bestTimes_97 rfl ?_
          refine x_goto (tgt := 104) C dX6_bestTimes_99 (by decide) ?_
          refine x_istore C dX6_bestTimes_104 (by decide) ?_
          refine x_iinc C dX6_bestTimes_106 rfl (by decide) ?_
          refine x_goto (tgt := 48) C dX6_bestTimes_109 (by decide) ?_
          exact x_wk C rfl ih
      have hT0 : zbt6 g (k + 1) = (if (zbt6 g k).2 < v then (k : Int) - 99 else (zbt6 g k).1, if (zbt6 g k).2 < v then v else (zbt6 g k).2) := by rw [hve]; rfl
      refine x_istore C dX6_bestTimes_72 (by decide) ?_
      refine x_iload C dX6_bestTimes_74 rfl ?_
      refine x_iload C dX6_bestTimes_76 rfl ?_
      refine x_icmp_le (tgt := 86) C dX6_bestTimes_78 (by decide) (by omega) (fun c78 => ?_) (fun c78 => ?_)
      · have hT := hT0.trans (congrArg (fun z => (z, if (zbt6 g k).2 < v then v else (zbt6 g k).2)) (if_neg (by omega)))
        refine x_iload C dX6_bestTimes_86 rfl ?_
        exact tail _ hT
      · have hT := hT0.trans (congrArg (fun z => (z, if (zbt6 g k).2 < v then v else (zbt6 g k).2)) (if_pos (by omega)))
        refine x_iload C dX6_bestTimes_81 rfl ?_
        refine x_goto (tgt := 88) C dX6_bestTimes_83 (by decide) ?_
        exact tail _ hT
    refine x_iload C dX6_bestTimes_48 rfl ?_
    refine x_bipush C dX6_bestTimes_50 (by decide) ?_
    refine x_icmp_ge (tgt := 112) C dX6_bestTimes_52 (by decide) (by omega) (fun c52 => ?_) (fun c52 => ?_)
    · refine x_iload_n C dX6_bestTimes_112 rfl ?_
      refine x_if_ne (tgt := 124) C dX6_bestTimes_113 (by decide) (by omega) (fun c113 => ?_) (fun c113 => ?_)
      · refine x_iload C dX6_bestTimes_124 rfl ?_
        exact x_iret (st := []) C dX6_bestTimes_126 rfl ⟨congrArg (fun z => some (zi z)) (by
  obtain rfl : k = 199 := by omega
  first | rw [if_pos (by omega)] | rw [if_neg (by omega)]), rfl, rfl, rfl⟩
      · refine x_iload C dX6_bestTimes_116 rfl ?_
        refine x_bipush C dX6_bestTimes_118 (by decide) ?_
        refine x_iadd C dX6_bestTimes_120 ?_
        refine x_goto (tgt := 126) C dX6_bestTimes_121 (by decide) ?_
        exact x_iret (st := []) C dX6_bestTimes_126 rfl ⟨congrArg (fun z => some (zi z)) (by
  obtain rfl : k = 199 := by omega
  first | rw [if_pos (by omega)] | rw [if_neg (by omega)]), rfl, rfl, rfl⟩
    · refine x_iload C dX6_bestTimes_55 rfl ?_
      refine x_if_ne (tgt := 64) C dX6_bestTimes_57 (by decide) (by omega) (fun c57 => ?_) (fun c57 => ?_)
      · have hv := (show g ((k : Int) - 99) = if (k : Int) - 99 = 0 then -1 else g ((k : Int) - 99) from (if_neg (by omega)).symm)
        refine x_aload_n C dX6_bestTimes_64 rfl ?_
        refine x_iload_n C dX6_bestTimes_65 rfl ?_
        refine x_iload_n C dX6_bestTimes_66 rfl ?_
        refine x_iload C dX6_bestTimes_67 rfl ?_
        refine x_callV C dX6_bestTimes_69 (hZ _ (by omega)) okX6_zerosBy lkX6_190 ⟨⟨hM, rfl, rfl⟩, (by omega)⟩ ⟨by decide, rfl, rfl, Nat.le_of_ble_eq_true rfl⟩ rfl (Or.inl ⟨rfl, rfl⟩) ?_
        exact back (by omega) _ (by omega) hv
      · have hv := (show (-1 : Int) = if (k : Int) - 99 = 0 then -1 else g ((k : Int) - 99) from (if_pos (by omega)).symm)
        refine x_iconst C dX6_bestTimes_60 ?_
        refine x_goto (tgt := 72) C dX6_bestTimes_61 (by decide) ?_
        exact back (by omega) _ (by omega) hv
  refine x_aload_n C dX6_bestTimes_0 rfl ?_
  refine x_iconst C dX6_bestTimes_1 ?_
  refine x_putI C dX6_bestTimes_2 lfX6_41 lyX6_0 hM (by omega) (Nat.le_of_ble_eq_true rfl) ?_
  refine x_nm (fun s2 e2 => ?_)
  rw [show s2 = σ from e2.trans (zsu_self hM)]
  clear e2 s2
  refine x_iload_n C dX6_bestTimes_5 rfl ?_
  refine x_callS C dX6_bestTimes_6 (ctX6_isMatrix _ (by omega)) okX6_isMatrix lkX6_104 ⟨by decide, rfl, rfl, Nat.le_of_ble_eq_true rfl⟩ rfl (Or.inl ⟨rfl, rfl⟩) ?_
  refine x_ifeq_d (tgt := 19) C dX6_bestTimes_9 (by decide) (fun c9 => ?_) (fun c9 => ?_)
  · exfalso; omega
  · refine x_iload_n C dX6_bestTimes_12 rfl ?_
    refine x_callS C dX6_bestTimes_13 (ctX6_isMatrix _ (by omega)) okX6_isMatrix lkX6_104 ⟨by decide, rfl, rfl, Nat.le_of_ble_eq_true rfl⟩ rfl (Or.inl ⟨rfl, rfl⟩) ?_
    refine x_ifne_d (tgt := 21) C dX6_bestTimes_16 (by decide) (fun c16 => ?_) (fun c16 => ?_)
    · refine x_iload_n C dX6_bestTimes_21 rfl ?_
      refine x_iconst C dX6_bestTimes_22 ?_
      refine x_iconst C dX6_bestTimes_23 ?_
      refine x_callS C dX6_bestTimes_24 (ctX6_in _ _ _ (by omega) (by omega) (by omega)) okX6_in lkX6_45 ⟨by decide, rfl, rfl, Nat.le_of_ble_eq_true rfl⟩ rfl (Or.inl ⟨rfl, rfl⟩) ?_
      refine x_ifeq_d (tgt := 35) C dX6_bestTimes_27 (by decide) (fun c27 => ?_) (fun c27 => ?_)
      · exfalso; omega
      · refine x_iload_n C dX6_bestTimes_30 rfl ?_
        refine x_iload_n C dX6_bestTimes_31 rfl ?_
        refine x_icmp_ne (tgt := 38) C dX6_bestTimes_32 (by decide) (by omega) (fun c32 => ?_) (fun c32 => ?_)
        · refine x_iconst C dX6_bestTimes_38 ?_
          refine x_istore C dX6_bestTimes_39 (by decide) ?_
          refine x_iconst C dX6_bestTimes_41 ?_
          refine x_istore C dX6_bestTimes_42 (by decide) ?_
          refine x_bipush C dX6_bestTimes_44 (by decide) ?_
          refine x_istore C dX6_bestTimes_46 (by decide) ?_
          exact loop 0 (by omega)
        · exact absurd c32 hne
    · exfalso; omega
end
