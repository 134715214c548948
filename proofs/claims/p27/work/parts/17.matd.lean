section
variable {n : Nat} {σ : zS}
theorem zfl {e d : Int} (hd : 0 ≤ d ∧ d ≤ 3) (he : 0 ≤ e ∧ e < 16) : 0 ≤ e / zsz d * zsz d ∧ e / zsz d * zsz d + zsz d ≤ 16 ∧ e / zsz d * zsz d ≤ e ∧ e < e / zsz d * zsz d + zsz d := by
  rcases zsz_v hd with ⟨-, q⟩ | ⟨-, q⟩ | ⟨-, q⟩ | ⟨-, q⟩ <;> rw [q] <;> omega
theorem ctX1_emptyBlockOf {h : Int} {e t : Int → Int} (hm : isM σ n h e t) (ht : zSt t) (row col : Int) (hr : 0 ≤ row ∧ row < 16) (hc : 0 ≤ col ∧ col < 16) : zCt 5 0 0 yX1_emptyBlockOf cX1_emptyBlockOf 4 (some .int) [zr h, zi row, zi col] n σ (some (zi (zsz (zdp t row col)))) n (sM σ h (zsq e (row / zsz (zdp t row col) * zsz (zdp t row col)) (col / zsz (zdp t row col) * zsz (zdp t row col)) (zsz (zdp t row col)) (fun _ => 0)) (zu t (zno (zdp t row col) (row / zsz (zdp t row col) * zsz (zdp t row col)) (col / zsz (zdp t row col) * zsz (zdp t row col))) 0)) := by
  obtain ⟨hM, hE, hT, hh⟩ := hm
  have hz := zdp_in t row col
  have h1 := zfl hz hr
  have h2 := zfl hz hc
  refine zCt.of (by decide) rfl (Nat.le_of_ble_eq_true rfl) (fun K C => ?_)
  refine x_aload_n C dX1_emptyBlockOf_0 rfl ?_
  refine x_iload_n C dX1_emptyBlockOf_1 rfl ?_
  refine x_iload_n C dX1_emptyBlockOf_2 rfl ?_
  refine x_callV C dX1_emptyBlockOf_3 (ctX1_depthOf ⟨hM, hE, hT, hh⟩ ht row col hr hc) okX1_depthOf lkX1_43 ⟨⟨hM, rfl, rfl⟩, (by omega)⟩ ⟨by decide, rfl, rfl, Nat.le_of_ble_eq_true rfl⟩ rfl (Or.inl ⟨rfl, rfl⟩) ?_
  refine x_istore_n C dX1_emptyBlockOf_6 (by decide) ?_
  refine x_aload_n C dX1_emptyBlockOf_7 rfl ?_
  refine x_iload_n C dX1_emptyBlockOf_8 rfl ?_
  refine x_iload_n C dX1_emptyBlockOf_9 rfl ?_
  refine x_iload_n C dX1_emptyBlockOf_10 rfl ?_
  refine x_callSN C dX1_emptyBlockOf_11 (ctX5_firstOf _ row hz hr) okX5_firstOf nkX1_75 ⟨by decide, rfl, rfl, Nat.le_of_ble_eq_true rfl⟩ rfl (Or.inl ⟨rfl, rfl⟩) ?_
  refine x_iload_n C dX1_emptyBlockOf_14 rfl ?_
  refine x_iload_n C dX1_emptyBlockOf_15 rfl ?_
  refine x_callSN C dX1_emptyBlockOf_16 (ctX5_firstOf _ col hz hc) okX5_firstOf nkX1_75 ⟨by decide, rfl, rfl, Nat.le_of_ble_eq_true rfl⟩ rfl (Or.inl ⟨rfl, rfl⟩) ?_
  refine x_callV C dX1_emptyBlockOf_19 (ctX1_setEmpty ⟨hM, hE, hT, hh⟩ _ _ _ hz ⟨h1.1, h1.2.1⟩ ⟨h2.1, h2.2.1⟩) okX1_setEmpty lkX1_78 ⟨⟨hM, rfl, rfl⟩, (by omega)⟩ ⟨by decide, rfl, rfl, Nat.le_of_ble_eq_true rfl⟩ rfl (Or.inl ⟨rfl, rfl⟩) ?_
  refine x_iload_n C dX1_emptyBlockOf_22 rfl ?_
  refine x_callSN C dX1_emptyBlockOf_23 (ctX5_sizeAt _ hz) okX5_sizeAt nkX1_24 ⟨by decide, rfl, rfl, Nat.le_of_ble_eq_true rfl⟩ rfl (Or.inl ⟨rfl, rfl⟩) ?_
  exact x_iret (st := []) C dX1_emptyBlockOf_26 rfl ⟨congrArg (fun z => some (zi z)) (by first | rfl | omega), rfl, rfl, rfl⟩
theorem ctX1_deepest {h : Int} {e t : Int → Int} (hm : isM σ n h e t) (ht : zSt t) : zCt 5 0 0 yX1_deepest cX1_deepest 3 (some .int) [zr h] n σ (some (zi (zfo (fun m k => max m (zdp t (k / 16) (k % 16))) 0 256))) n σ := by
  obtain ⟨hM, hE, hT, hh⟩ := hm
  have hfo : ∀ k, 0 ≤ zfo (fun m k => max m (zdp t (k / 16) (k % 16))) 0 k ∧ zfo (fun m k => max m (zdp t (k / 16) (k % 16))) 0 k ≤ 3 := by
    intro k
    induction k with
    | zero => exact ⟨Int.le_refl 0, by show (0 : Int) ≤ 3; decide⟩
    | succ k ih =>
      have h1 := zdp_in t ((k : Int) / 16) ((k : Int) % 16)
      show 0 ≤ max (zfo (fun m k => max m (zdp t (k / 16) (k % 16))) 0 k) (zdp t (k / 16) (k % 16)) ∧ max (zfo (fun m k => max m (zdp t (k / 16) (k % 16))) 0 k) (zdp t (k / 16) (k % 16)) ≤ 3
      omega
  refine zCt.of (by decide) rfl (Nat.le_of_ble_eq_true rfl) (fun K C => ?_)
  have loop : ∀ k : Nat, k ≤ 256 → K 4 [some (zr h), some (zi (zfo (fun m k => max m (zdp t (k / 16) (k % 16))) 0 k)), some (zi (k : Int))] [] n σ 0 := by
    refine zloop _ 256 (fun k hk ih => ?_)
    refine x_iload_n C dX1_deepest_4 rfl ?_
    refine x_sipush C dX1_deepest_5 (by decide) ?_
    refine x_icmp_ge (tgt := 34) C dX1_deepest_8 (by decide) (by omega) (fun c8 => ?_) (fun c8 => ?_)
    · refine x_iload_n C dX1_deepest_34 rfl ?_
      exact x_iret (st := []) C dX1_deepest_35 rfl ⟨congrArg (fun z => some (zi z)) (by rw [show k = 256 by omega]), rfl, rfl, rfl⟩
    · refine x_iload_n C dX1_deepest_11 rfl ?_
      refine x_aload_n C dX1_deepest_12 rfl ?_
      refine x_iload_n C dX1_deepest_13 rfl ?_
      refine x_bipush C dX1_deepest_14 (by decide) ?_
      refine x_idiv C dX1_deepest_16 (by omega) ?_
      refine x_iload_n C dX1_deepest_17 rfl ?_
      refine x_bipush C dX1_deepest_18 (by decide) ?_
      refine x_irem C dX1_deepest_20 (by omega) ?_
      refine x_callV C dX1_deepest_21 (ctX1_depthOf ⟨hM, hE, hT, hh⟩ ht _ _ (by omega) (by omega)) okX1_depthOf lkX1_43 ⟨⟨hM, rfl, rfl⟩, (by omega)⟩ ⟨by decide, rfl, rfl, Nat.le_of_ble_eq_true rfl⟩ rfl (Or.inl ⟨rfl, rfl⟩) ?_
      refine x_mmax C dX1_deepest_24 lmX1_46 (by decide) (Nat.le_of_ble_eq_true rfl) (by have := hfo k; have := zdp_in t (k / 16) (k % 16); omega) ?_
      refine x_istore_n C dX1_deepest_27 (by decide) ?_
      refine x_iinc C dX1_deepest_28 rfl (by decide) ?_
      refine x_goto (tgt := 4) C dX1_deepest_31 (by decide) ?_
      exact ih (by omega)
  refine x_iconst C dX1_deepest_0 ?_
  refine x_istore_n C dX1_deepest_1 (by decide) ?_
  refine x_iconst C dX1_deepest_2 ?_
  refine x_istore_n C dX1_deepest_3 (by decide) ?_
  exact loop 0 (by omega)
/-- the room of a block with all that is in it; f: how many levels are below -/
def zroom (t : Int → Int) : Nat → Int → Int → Int
  | 0, row, col => zrm (t (zno 3 row col)) 2
  | f + 1, row, col => if t (zno (2 - f) row col) = 3 then 1 + zsm (fun p => zroom t f (row + p / 2 * zsz (3 - f)) (col + p % 2 * zsz (3 - f))) 4 else zrm (t (zno (2 - f) row col)) (zsz (2 - f))
theorem ctX1_roomFrom {h : Int} {e t : Int → Int} (hm : isM σ n h e t) (ht : zSt t) : ∀ (f : Nat) (d row col : Int), d = 3 - f → 0 ≤ d → (0 ≤ row ∧ row + zsz d ≤ 16) → (0 ≤ col ∧ col + zsz d ≤ 16) → zCt (4 + f) 0 0 yX1_roomFrom cX1_roomFrom 6 (some .int) [zr h, zi d, zi row, zi col] n σ (some (zi (zroom t f row col))) n σ := by
  obtain ⟨hM, hE, hT, hh⟩ := hm
  intro f
  induction f with
  | zero =>
    intro d row col hd hd0 hr hc
    obtain rfl : d = 3 := by omega
    have e3 : zsz 3 = 2 := rfl
    rw [e3] at hr hc
    refine zCt.of (by decide) rfl (Nat.le_of_ble_eq_true rfl) (fun K C => ?_)
    refine x_aload_n C dX1_roomFrom_0 rfl ?_
    refine x_iload_n C dX1_roomFrom_1 rfl ?_
    refine x_iload_n C dX1_roomFrom_2 rfl ?_
    refine x_iload_n C dX1_roomFrom_3 rfl ?_
    refine x_callV C dX1_roomFrom_4 (ctX1_isCut ⟨hM, hE, hT, hh⟩ ht 3 row col (by omega) (by omega) (by omega)) okX1_isCut lkX1_39 ⟨⟨hM, rfl, rfl⟩, (by omega)⟩ ⟨by decide, rfl, rfl, Nat.le_of_ble_eq_true rfl⟩ rfl (Or.inl ⟨rfl, rfl⟩) ?_
    refine x_ifne_d (tgt := 25) C dX1_roomFrom_7 (by decide) (fun c7 => ?_) (fun c7 => ?_)
    · exact absurd c7.1 (by omega)
    · refine x_aload_n C dX1_roomFrom_10 rfl ?_
      refine x_iload_n C dX1_roomFrom_11 rfl ?_
      refine x_iload_n C dX1_roomFrom_12 rfl ?_
      refine x_iload_n C dX1_roomFrom_13 rfl ?_
      refine x_callV C dX1_roomFrom_14 (ctX1_sortOf ⟨hM, hE, hT, hh⟩ 3 row col (by omega) (by omega) (by omega)) okX1_sortOf lkX1_36 ⟨⟨hM, rfl, rfl⟩, (by omega)⟩ ⟨by decide, rfl, rfl, Nat.le_of_ble_eq_true rfl⟩ rfl (Or.inl ⟨rfl, rfl⟩) ?_
      refine x_iload_n C dX1_roomFrom_17 rfl ?_
      refine x_callSN C dX1_roomFrom_18 (ctX5_sizeAt 3 (by omega)) okX5_sizeAt nkX1_24 ⟨by decide, rfl, rfl, Nat.le_of_ble_eq_true rfl⟩ rfl (Or.inl ⟨rfl, rfl⟩) ?_
      refine x_callSN C dX1_roomFrom_21 (ctX5_roomOfUncut _ _ (by have := ht (zno 3 row col); omega)) okX5_roomOfUncut nkX1_54 ⟨by decide, rfl, rfl, Nat.le_of_ble_eq_true rfl⟩ rfl (Or.inl ⟨rfl, rfl⟩) ?_
      exact x_iret (st := []) C dX1_roomFrom_24 rfl ⟨rfl, rfl, rfl, rfl⟩
  | succ f ih =>
    intro d row col hd hd0 hr hc
    have hz := zsz_v (d := d) (by omega)
    have ed : d = 2 - f := by omega
    refine zCt.of (by decide) rfl (Nat.le_of_ble_eq_true rfl) (fun K C => ?_)
    have loop : t (zno d row col) = 3 → d < 3 → ∀ k : Nat, k ≤ 4 → K 31 [some (zr h), some (zi d), some (zi row), some (zi col), some (zi (1 + zsm (fun p => zroom t f (row + p / 2 * zsz (d + 1)) (col + p % 2 * zsz (d + 1))) k)), some (zi (k : Int))] [] n σ 0 := by
      intro ht3 hd3
      refine zloop _ 4 (fun k hk ih2 => ?_)
      refine x_iload C dX1_roomFrom_31 rfl ?_
      refine x_iconst C dX1_roomFrom_33 ?_
      refine x_icmp_ge (tgt := 69) C dX1_roomFrom_34 (by decide) (by omega) (fun c34 => ?_) (fun c34 => ?_)
      · refine x_iload C dX1_roomFrom_69 rfl ?_
        exact x_iret (st := []) C dX1_roomFrom_71 rfl ⟨congrArg (fun z => some (zi z)) (by rw [show k = 4 by omega, zroom, ← ed, if_pos ht3, show (3 - f : Int) = d + 1 by omega]), rfl, rfl, rfl⟩
      · have hp1 := zpart (d := d) (row := row) (p := k) (by omega) (by omega) hr
        have hp2 := zpart (d := d) (row := col) (p := k) (by omega) (by omega) hc
        refine x_iload C dX1_roomFrom_37 rfl ?_
        refine x_aload_n C dX1_roomFrom_39 rfl ?_
        refine x_iload_n C dX1_roomFrom_40 rfl ?_
        refine x_iconst C dX1_roomFrom_41 ?_
        refine x_iadd C dX1_roomFrom_42 ?_
        refine x_iload_n C dX1_roomFrom_43 rfl ?_
        refine x_iload_n C dX1_roomFrom_44 rfl ?_
        refine x_iload C dX1_roomFrom_45 rfl ?_
        refine x_callS C dX1_roomFrom_47 (ctX1_rowOfPart d row _ (by omega) (by omega)) okX1_rowOfPart lkX1_57 ⟨by omega, rfl, rfl, Nat.le_of_ble_eq_true rfl⟩ rfl (Or.inl ⟨rfl, rfl⟩) ?_
        refine x_iload_n C dX1_roomFrom_50 rfl ?_
        refine x_iload_n C dX1_roomFrom_51 rfl ?_
        refine x_iload C dX1_roomFrom_52 rfl ?_
        refine x_callS C dX1_roomFrom_54 (ctX1_columnOfPart d col _ (by omega) (by omega)) okX1_columnOfPart lkX1_60 ⟨by omega, rfl, rfl, Nat.le_of_ble_eq_true rfl⟩ rfl (Or.inl ⟨rfl, rfl⟩) ?_
        refine x_callV C dX1_roomFrom_57 (ih (d + 1) _ _ (by omega) (by omega) hp1.1 hp2.2) okX1_roomFrom lkX1_51 ⟨⟨hM, rfl, rfl⟩, (by omega)⟩ ⟨by omega, rfl, rfl, Nat.le_of_ble_eq_true rfl⟩ rfl (Or.inl ⟨rfl, rfl⟩) ?_
        refine x_iadd C dX1_roomFrom_60 ?_
        refine x_istore C dX1_roomFrom_61 (by decide) ?_
        refine x_iinc C dX1_roomFrom_63 rfl (by decide) ?_
        refine x_goto (tgt := 31) C dX1_roomFrom_66 (by decide) ?_
        rw [Int.add_assoc]
        exact ih2 (by omega)
    refine x_aload_n C dX1_roomFrom_0 rfl ?_
    refine x_iload_n C dX1_roomFrom_1 rfl ?_
    refine x_iload_n C dX1_roomFrom_2 rfl ?_
    refine x_iload_n C dX1_roomFrom_3 rfl ?_
    refine x_callV C dX1_roomFrom_4 (ctX1_isCut ⟨hM, hE, hT, hh⟩ ht d row col (by omega) (by omega) (by omega)) okX1_isCut lkX1_39 ⟨⟨hM, rfl, rfl⟩, (by omega)⟩ ⟨by omega, rfl, rfl, Nat.le_of_ble_eq_true rfl⟩ rfl (Or.inl ⟨rfl, rfl⟩) ?_
    refine x_ifne_d (tgt := 25) C dX1_roomFrom_7 (by decide) (fun c7 => ?_) (fun c7 => ?_)
    · refine x_iconst C dX1_roomFrom_25 ?_
      refine x_istore C dX1_roomFrom_26 (by decide) ?_
      refine x_iconst C dX1_roomFrom_28 ?_
      refine x_istore C dX1_roomFrom_29 (by decide) ?_
      exact loop c7.2 c7.1 0 (by omega)
    · refine x_aload_n C dX1_roomFrom_10 rfl ?_
      refine x_iload_n C dX1_roomFrom_11 rfl ?_
      refine x_iload_n C dX1_roomFrom_12 rfl ?_
      refine x_iload_n C dX1_roomFrom_13 rfl ?_
      refine x_callV C dX1_roomFrom_14 (ctX1_sortOf ⟨hM, hE, hT, hh⟩ d row col (by omega) (by omega) (by omega)) okX1_sortOf lkX1_36 ⟨⟨hM, rfl, rfl⟩, (by omega)⟩ ⟨by omega, rfl, rfl, Nat.le_of_ble_eq_true rfl⟩ rfl (Or.inl ⟨rfl, rfl⟩) ?_
      refine x_iload_n C dX1_roomFrom_17 rfl ?_
      refine x_callSN C dX1_roomFrom_18 (ctX5_sizeAt d (by omega)) okX5_sizeAt nkX1_24 ⟨by omega, rfl, rfl, Nat.le_of_ble_eq_true rfl⟩ rfl (Or.inl ⟨rfl, rfl⟩) ?_
      refine x_callSN C dX1_roomFrom_21 (ctX5_roomOfUncut _ _ (by have := ht (zno d row col); omega)) okX5_roomOfUncut nkX1_54 ⟨by omega, rfl, rfl, Nat.le_of_ble_eq_true rfl⟩ rfl (Or.inl ⟨rfl, rfl⟩) ?_
      exact x_iret (st := []) C dX1_roomFrom_24 rfl ⟨congrArg (fun z => some (zi z)) (by rw [zroom, ← ed, if_neg (fun q => c7 ⟨by omega, q⟩)]), rfl, rfl, rfl⟩
theorem ctX1_room {h : Int} {e t : Int → Int} (hm : isM σ n h e t) (ht : zSt t) : zCt 8 0 0 yX1_room cX1_room 1 (some .int) [zr h] n σ (some (zi (zroom t 3 0 0))) n σ := by
  obtain ⟨hM, hE, hT, hh⟩ := hm
  refine zCt.of (by decide) rfl (Nat.le_of_ble_eq_true rfl) (fun K C => ?_)
  refine x_aload_n C dX1_room_0 rfl ?_
  refine x_iconst C dX1_room_1 ?_
  refine x_iconst C dX1_room_2 ?_
  refine x_iconst C dX1_room_3 ?_
  refine x_callV C dX1_room_4 (ctX1_roomFrom ⟨hM, hE, hT, hh⟩ ht 3 0 0 0 (by decide) (by decide) (by decide) (by decide)) okX1_roomFrom lkX1_51 ⟨⟨hM, rfl, rfl⟩, (by omega)⟩ ⟨by decide, rfl, rfl, Nat.le_of_ble_eq_true rfl⟩ rfl (Or.inl ⟨rfl, rfl⟩) ?_
  exact x_iret (st := []) C dX1_room_7 rfl ⟨congrArg (fun z => some (zi z)) (by first | rfl | omega), rfl, rfl, rfl⟩
def zcnt (t : Int → Int) (s : Int) : Nat → Int → Int → Int
  | 0, row, col => if t (zno 3 row col) = s then 1 else 0
  | f + 1, row, col => (if t (zno (2 - f) row col) = s then 1 else 0) + (if t (zno (2 - f) row col) = 3 then zsm (fun p => zcnt t s f (row + p / 2 * zsz (3 - f)) (col + p % 2 * zsz (3 - f))) 4 else 0)
theorem ctX1_blocksFrom {h : Int} {e t : Int → Int} (hm : isM σ n h e t) (ht : zSt t) {s : Int} (hs : 0 ≤ s ∧ s ≤ 3) : ∀ (f : Nat) (d row col : Int), d = 3 - f → 0 ≤ d → (0 ≤ row ∧ row + zsz d ≤ 16) → (0 ≤ col ∧ col + zsz d ≤ 16) → zCt (4 + f) 0 0 yX1_blocksFrom cX1_blocksFrom 7 (some .int) [zr h, zi s, zi d, zi row, zi col] n σ (some (zi (zcnt t s f row col))) n σ := by
  obtain ⟨hM, hE, hT, hh⟩ := hm
  intro f
  induction f with
  | zero =>
    intro d row col hd hd0 hr hc
    obtain rfl : d = 3 := by omega
    have e3 : zsz 3 = 2 := rfl
    rw [e3] at hr hc
    have ht1 := ht (zno 3 row col)
    refine zCt.of (by decide) rfl (Nat.le_of_ble_eq_true rfl) (fun K C => ?_)
    refine x_aload_n C dX1_blocksFrom_0 rfl ?_
    refine x_iload_n C dX1_blocksFrom_1 rfl ?_
    refine x_iload_n C dX1_blocksFrom_2 rfl ?_
    refine x_iload C dX1_blocksFrom_3 rfl ?_
    refine x_callV C dX1_blocksFrom_5 (ctX1_sortOf ⟨hM, hE, hT, hh⟩ 3 row col (by omega) (by omega) (by omega)) okX1_sortOf lkX1_36 ⟨⟨hM, rfl, rfl⟩, (by omega)⟩ ⟨by decide, rfl, rfl, Nat.le_of_ble_eq_true rfl⟩ rfl (Or.inl ⟨rfl, rfl⟩) ?_
    refine x_iload_n C dX1_blocksFrom_8 rfl ?_
    refine x_icmp_ne (tgt := 16) C dX1_blocksFrom_9 (by decide) (by omega) (fun c9 => ?_) (fun c9 => ?_)
    · refine x_iconst C dX1_blocksFrom_16 ?_
      refine x_istore C dX1_blocksFrom_17 (by decide) ?_
      refine x_aload_n C dX1_blocksFrom_19 rfl ?_
      refine x_iload_n C dX1_blocksFrom_20 rfl ?_
      refine x_iload_n C dX1_blocksFrom_21 rfl ?_
      refine x_iload C dX1_blocksFrom_22 rfl ?_
      refine x_callV C dX1_blocksFrom_24 (ctX1_isCut ⟨hM, hE, hT, hh⟩ ht 3 row col (by omega) (by omega) (by omega)) okX1_isCut lkX1_39 ⟨⟨hM, rfl, rfl⟩, (by omega)⟩ ⟨by decide, rfl, rfl, Nat.le_of_ble_eq_true rfl⟩ rfl (Or.inl ⟨rfl, rfl⟩) ?_
      refine x_ifne_d (tgt := 33) C dX1_blocksFrom_27 (by decide) (fun c27 => ?_) (fun c27 => ?_)
      · exact absurd c27.1 (by omega)
      · refine x_iload C dX1_blocksFrom_30 rfl ?_
        exact x_iret (st := []) C dX1_blocksFrom_32 rfl ⟨congrArg (fun z => some (zi z)) (by simp [zcnt, c9]), rfl, rfl, rfl⟩
    · refine x_iconst C dX1_blocksFrom_12 ?_
      refine x_goto (tgt := 17) C dX1_blocksFrom_13 (by decide) ?_
      refine x_istore C dX1_blocksFrom_17 (by decide) ?_
      refine x_aload_n C dX1_blocksFrom_19 rfl ?_
      refine x_iload_n C dX1_blocksFrom_20 rfl ?_
      refine x_iload_n C dX1_blocksFrom_21 rfl ?_
      refine x_iload C dX1_blocksFrom_22 rfl ?_
      refine x_callV C dX1_blocksFrom_24 (ctX1_isCut ⟨hM, hE, hT, hh⟩ ht 3 row col (by omega) (by omega) (by omega)) okX1_isCut lkX1_39 ⟨⟨hM, rfl, rfl⟩, (by omega)⟩ ⟨by decide, rfl, rfl, Nat.le_of_ble_eq_true rfl⟩ rfl (Or.inl ⟨rfl, rfl⟩) ?_
      refine x_ifne_d (tgt := 33) C dX1_blocksFrom_27 (by decide) (fun c27 => ?_) (fun c27 => ?_)
      · exact absurd c27.1 (by omega)
      · refine x_iload C dX1_blocksFrom_30 rfl ?_
        exact x_iret (st := []) C dX1_blocksFrom_32 rfl ⟨congrArg (fun z => some (zi z)) (by simp [zcnt, c9]), rfl, rfl, rfl⟩
  | succ f ih =>
    intro d row col hd hd0 hr hc
    have hz := zsz_v (d := d) (by omega)
    have ed : d = 2 - f := by omega
    have ht1 := ht (zno d row col)
    refine zCt.of (by decide) rfl (Nat.le_of_ble_eq_true rfl) (fun K C => ?_)
    have join : ∀ x : Int, x = (if t (zno d row col) = s then 1 else 0) → K 17 [some (zr h), some (zi s), some (zi d), some (zi row), some (zi col), none, none] [zi x] n σ 0 := by
      intro x hx
      have loop : t (zno d row col) = 3 → d < 3 → ∀ k : Nat, k ≤ 4 → K 36 [some (zr h), some (zi s), some (zi d), some (zi row), some (zi col), some (zi (x + zsm (fun p => zcnt t s f (row + p / 2 * zsz (d + 1)) (col + p % 2 * zsz (d + 1))) k)), some (zi (k : Int))] [] n σ 0 := by
        intro ht3 hd3
        refine zloop _ 4 (fun k hk ih2 => ?_)
        refine x_iload C dX1_blocksFrom_36 rfl ?_
        refine x_iconst C dX1_blocksFrom_38 ?_
        refine x_icmp_ge (tgt := 76) C dX1_blocksFrom_39 (by decide) (by omega) (fun c39 => ?_) (fun c39 => ?_)
        · refine x_iload C dX1_blocksFrom_76 rfl ?_
          exact x_iret (st := []) C dX1_blocksFrom_78 rfl ⟨congrArg (fun z => some (zi z)) (by rw [show k = 4 by omega, zcnt, ← ed, if_pos ht3, show (3 - f : Int) = d + 1 by omega, hx]), rfl, rfl, rfl⟩
        · have hp1 := zpart (d := d) (row := row) (p := k) (by omega) (by omega) hr
          have hp2 := zpart (d := d) (row := col) (p := k) (by omega) (by omega) hc
          refine x_iload C dX1_blocksFrom_42 rfl ?_
          refine x_aload_n C dX1_blocksFrom_44 rfl ?_
          refine x_iload_n C dX1_blocksFrom_45 rfl ?_
          refine x_iload_n C dX1_blocksFrom_46 rfl ?_
          refine x_iconst C dX1_blocksFrom_47 ?_
          refine x_iadd C dX1_blocksFrom_48 ?_
          refine x_iload_n C dX1_blocksFrom_49 rfl ?_
          refine x_iload_n C dX1_blocksFrom_50 rfl ?_
          refine x_iload C dX1_blocksFrom_51 rfl ?_
          refine x_callS C dX1_blocksFrom_53 (ctX1_rowOfPart d row _ (by omega) (by omega)) okX1_rowOfPart lkX1_57 ⟨by omega, rfl, rfl, Nat.le_of_ble_eq_true rfl⟩ rfl (Or.inl ⟨rfl, rfl⟩) ?_
          refine x_iload_n C dX1_blocksFrom_56 rfl ?_
          refine x_iload C dX1_blocksFrom_57 rfl ?_
          refine x_iload C dX1_blocksFrom_59 rfl ?_
          refine x_callS C dX1_blocksFrom_61 (ctX1_columnOfPart d col _ (by omega) (by omega)) okX1_columnOfPart lkX1_60 ⟨by omega, rfl, rfl, Nat.le_of_ble_eq_true rfl⟩ rfl (Or.inl ⟨rfl, rfl⟩) ?_
          refine x_callV C dX1_blocksFrom_64 (ih (d + 1) _ _ (by omega) (by omega) hp1.1 hp2.2) okX1_blocksFrom lkX1_63 ⟨⟨hM, rfl, rfl⟩, (by omega)⟩ ⟨by omega, rfl, rfl, Nat.le_of_ble_eq_true rfl⟩ rfl (Or.inl ⟨rfl, rfl⟩) ?_
          refine x_iadd C dX1_blocksFrom_67 ?_
          refine x_istore C dX1_blocksFrom_68 (by decide) ?_
          refine x_iinc C dX1_blocksFrom_70 rfl (by decide) ?_
          refine x_goto (tgt := 36) C dX1_blocksFrom_73 (by decide) ?_
          rw [Int.add_assoc]
          exact ih2 (by omega)
      refine x_istore C dX1_blocksFrom_17 (by decide) ?_
      refine x_aload_n C dX1_blocksFrom_19 rfl ?_
      refine x_iload_n C dX1_blocksFrom_20 rfl ?_
      refine x_iload_n C dX1_blocksFrom_21 rfl ?_
      refine x_iload C dX1_blocksFrom_22 rfl ?_
      refine x_callV C dX1_blocksFrom_24 (ctX1_isCut ⟨hM, hE, hT, hh⟩ ht d row col (by omega) (by omega) (by omega)) okX1_isCut lkX1_39 ⟨⟨hM, rfl, rfl⟩, (by omega)⟩ ⟨by omega, rfl, rfl, Nat.le_of_ble_eq_true rfl⟩ rfl (Or.inl ⟨rfl, rfl⟩) ?_
      refine x_ifne_d (tgt := 33) C dX1_blocksFrom_27 (by decide) (fun c27 => ?_) (fun c27 => ?_)
      · refine x_iconst C dX1_blocksFrom_33 ?_
        refine x_istore C dX1_blocksFrom_34 (by decide) ?_
        rw [show x = x + zsm (fun p => zcnt t s f (row + p / 2 * zsz (d + 1)) (col + p % 2 * zsz (d + 1))) 0 from (Int.add_zero x).symm]
        exact loop c27.2 c27.1 0 (by omega)
      · refine x_iload C dX1_blocksFrom_30 rfl ?_
        exact x_iret (st := []) C dX1_blocksFrom_32 rfl ⟨congrArg (fun z => some (zi z)) (by rw [zcnt, ← ed, if_neg (show ¬ t (zno d row col) = 3 from fun q => c27 ⟨by omega, q⟩), hx, Int.add_zero]), rfl, rfl, rfl⟩
    refine x_aload_n C dX1_blocksFrom_0 rfl ?_
    refine x_iload_n C dX1_blocksFrom_1 rfl ?_
    refine x_iload_n C dX1_blocksFrom_2 rfl ?_
    refine x_iload C dX1_blocksFrom_3 rfl ?_
    refine x_callV C dX1_blocksFrom_5 (ctX1_sortOf ⟨hM, hE, hT, hh⟩ d row col (by omega) (by omega) (by omega)) okX1_sortOf lkX1_36 ⟨⟨hM, rfl, rfl⟩, (by omega)⟩ ⟨by omega, rfl, rfl, Nat.le_of_ble_eq_true rfl⟩ rfl (Or.inl ⟨rfl, rfl⟩) ?_
    refine x_iload_n C dX1_blocksFrom_8 rfl ?_
    refine x_icmp_ne (tgt := 16) C dX1_blocksFrom_9 (by decide) (by omega) (fun c9 => ?_) (fun c9 => ?_)
    · try skip
      refine x_iconst C dX1_blocksFrom_16 ?_
      exact join _ (by first | exact (if_pos c9).symm | exact (if_neg c9).symm)
    · refine x_iconst C dX1_blocksFrom_12 ?_
      refine x_goto (tgt := 17) C dX1_blocksFrom_13 (by decide) ?_
      exact join _ (by first | exact (if_pos c9).symm | exact (if_neg c9).symm)
theorem ctX1_blocksOf {h : Int} {e t : Int → Int} (hm : isM σ n h e t) (ht : zSt t) {s : Int} (hs : 0 ≤ s ∧ s ≤ 3) : zCt 8 0 0 yX1_blocksOf cX1_blocksOf 2 (some .int) [zr h, zi s] n σ (some (zi (zcnt t s 3 0 0))) n σ := by
  obtain ⟨hM, hE, hT, hh⟩ := hm
  refine zCt.of (by decide) rfl (Nat.le_of_ble_eq_true rfl) (fun K C => ?_)
  refine x_aload_n C dX1_blocksOf_0 rfl ?_
  refine x_iload_n C dX1_blocksOf_1 rfl ?_
  refine x_iconst C dX1_blocksOf_2 ?_
  refine x_iconst C dX1_blocksOf_3 ?_
  refine x_iconst C dX1_blocksOf_4 ?_
  refine x_callV C dX1_blocksOf_5 (ctX1_blocksFrom ⟨hM, hE, hT, hh⟩ ht hs 3 0 0 0 (by decide) (by decide) (by decide) (by decide)) okX1_blocksFrom lkX1_63 ⟨⟨hM, rfl, rfl⟩, (by omega)⟩ ⟨by decide, rfl, rfl, Nat.le_of_ble_eq_true rfl⟩ rfl (Or.inl ⟨rfl, rfl⟩) ?_
  exact x_iret (st := []) C dX1_blocksOf_8 rfl ⟨congrArg (fun z => some (zi z)) (by first | rfl | omega), rfl, rfl, rfl⟩
end
