theorem z8_256 (i : Nat) : (2 : Int) ^ ((i : Int) * 8).toNat = 256 ^ i := by
  rw [show ((i : Int) * 8).toNat = 8 * i by omega, Int.pow_mul]
  rfl
/-- the pad's cell -/
abbrev zPO (L p x : Int) : zC := zO 2 [zr 104, zi L, zr 105, zr 108, zr 109, zr 110, zi p, zi x]
section
variable {n : Nat} {σ : zS} {X : zSV} {o l : Int} {Hs : Int → zSV} {Sl : Int → zSV × Bool} {f : Int → Int} {L : Int}
theorem ctX2_append {p x c : Int} (hP0 : σ 103 = zPO L p x) (hP1 : σ 104 = zP 2 80 f) (hL : 0 ≤ L ∧ L < 80) (hc : 0 ≤ c ∧ c < 65536) (hn : 144 ≤ n) : zCt 1 0 0 yX2_append cX2_append 2 none [zr 103, zi c] n σ none n (zsu (zsu σ 104 (zP 2 80 (zu f L c))) 103 (zPO (L + 1) p x)) := by
  refine zCt.of (by decide) rfl (Nat.le_of_ble_eq_true rfl) (fun K C => ?_)
  refine x_aload_n C dX2_append_0 rfl ?_
  refine x_getfield C dX2_append_1 lfX2_15 hP0 (by omega) rfl ?_
  refine x_bipush C dX2_append_4 (by decide) ?_
  refine x_icmp_ge (tgt := 29) C dX2_append_6 (by decide) (by omega) (fun c6 => ?_) (fun c6 => ?_)
  · exact absurd c6 (by omega)
  · refine x_aload_n C dX2_append_9 rfl ?_
    refine x_getfield C dX2_append_10 lfX2_9 hP0 (by omega) rfl ?_
    refine x_aload_n C dX2_append_13 rfl ?_
    refine x_getfield C dX2_append_14 lfX2_15 hP0 (by omega) rfl ?_
    refine x_iload_n C dX2_append_17 rfl ?_
    refine x_castore C dX2_append_18 hP1 (by omega) (by omega) ?_
    refine x_nm (fun s18 e18 => ?_)
    have hP0 := (congrFun e18 103).trans ((zsu_n _ _ (by omega)).trans hP0)
    have hP1 := (congrFun e18 104).trans (zsu_s _ _ _)
    refine x_aload_n C dX2_append_19 rfl ?_
    refine x_dup C dX2_append_20 rfl ?_
    refine x_getfield C dX2_append_21 lfX2_15 hP0 (by omega) rfl ?_
    refine x_iconst C dX2_append_24 ?_
    refine x_iadd C dX2_append_25 ?_
    refine x_putI C dX2_append_26 lfX2_15 lyX2_1 hP0 (by omega) (Nat.le_of_ble_eq_true rfl) ?_
    refine x_nm (fun s26 e26 => ?_)
    have hP0 := (congrFun e26 103).trans (zsu_s _ _ _)
    have hP1 := (congrFun e26 104).trans ((zsu_n _ _ (by omega)).trans hP1)
    exact x_vret (st := []) C dX2_append_29 rfl ⟨rfl, rfl, by rw [e26, e18]; rfl, rfl⟩
theorem ctX5_wipe {p x : Int} (hB : isB σ n) (hP0 : σ 103 = zPO L p x) : zCt 1 0 0 yX5_wipe cX5_wipe 2 (some .int) [zr 1] n σ (some (zi L)) n (zsu σ 103 (zPO 0 p x)) := by
  have hB0 := hB.1
  have hn := hB.2
  refine zCt.of (by decide) rfl (Nat.le_of_ble_eq_true rfl) (fun K C => ?_)
  refine x_aload_n C dX5_wipe_0 rfl ?_
  refine x_getfield C dX5_wipe_1 lfX5_32 hB0 (by omega) rfl ?_
  refine x_getfieldN C dX5_wipe_4 nfX5_70 hP0 (by omega) rfl ?_
  refine x_istore_n C dX5_wipe_7 (by decide) ?_
  refine x_aload_n C dX5_wipe_8 rfl ?_
  refine x_getfield C dX5_wipe_9 lfX5_32 hB0 (by omega) rfl ?_
  refine x_iconst C dX5_wipe_12 ?_
  refine x_putIN C dX5_wipe_13 nfX5_70 lyX2_1 hP0 (by omega) (Nat.le_of_ble_eq_true rfl) ?_
  refine x_nm (fun s13 e13 => ?_)
  have hB0 := (congrFun e13 1).trans ((zsu_n _ _ (by omega)).trans hB0)
  have hP0 := (congrFun e13 103).trans (zsu_s _ _ _)
  refine x_iload_n C dX5_wipe_16 rfl ?_
  exact x_iret (st := []) C dX5_wipe_17 rfl ⟨rfl, rfl, by rw [e13]; rfl, rfl⟩
theorem ctX5_undoE (R : RepC σ n X o l Hs Sl f L) (hl : l = 0) : zCt 4 0 0 yX5_undo cX5_undo 1 (some .int) [zr 1] n σ (some (zi (-5))) n σ := by
  obtain ⟨hB, ⟨hS, hok⟩, ⟨hH, -⟩, -⟩ := R
  have hH0 := hH.1
  have hB0 := hB.1
  have hn := hB.2
  refine zCt.of (by decide) rfl (Nat.le_of_ble_eq_true rfl) (fun K C => ?_)
  refine x_aload_n C dX5_undo_0 rfl ?_
  refine x_getfield C dX5_undo_1 lfX5_19 hB0 (by omega) rfl ?_
  refine x_getfieldN C dX5_undo_4 nfX5_163 hH0 (by omega) rfl ?_
  refine x_if_ne (tgt := 13) C dX5_undo_7 (by decide) (by omega) (fun c7 => ?_) (fun c7 => ?_)
  · exact absurd hl c7
  · refine x_bipush C dX5_undo_10 (by decide) ?_
    exact x_iret (st := []) C dX5_undo_12 rfl ⟨congrArg (fun z => some (zi z)) (by first | rfl | omega), rfl, rfl, rfl⟩
theorem ctX5_undo (R : RepC σ n X o l Hs Sl f L) (hl : 0 < l) : zCt 4 0 0 yX5_undo cX5_undo 1 (some .int) [zr 1] n σ (some (zi (l - 1))) n (zbec (zsu σ 16 (zO 0 [zr 17, zi o, zi (l - 1)])) 2 (Hs ((o + (l - 1)) % 6))) := by
  obtain ⟨hB, ⟨hS, hok⟩, ⟨hH, -⟩, -⟩ := R
  have hH0 := hH.1
  have hN0 := hS.1
  have hb := hH.2.2.1
  have hB0 := hB.1
  have hn := hB.2
  have g1 := zbec_ag (zsu σ 16 (zO 0 [zr 17, zi o, zi (l - 1)])) 2 (Hs ((o + (l - 1)) % 6))
  refine zCt.of (by decide) rfl (Nat.le_of_ble_eq_true rfl) (fun K C => ?_)
  refine x_aload_n C dX5_undo_0 rfl ?_
  refine x_getfield C dX5_undo_1 lfX5_19 hB0 (by omega) rfl ?_
  refine x_getfieldN C dX5_undo_4 nfX5_163 hH0 (by omega) rfl ?_
  refine x_if_ne (tgt := 13) C dX5_undo_7 (by decide) (by omega) (fun c7 => ?_) (fun c7 => ?_)
  · refine x_aload_n C dX5_undo_13 rfl ?_
    refine x_getfield C dX5_undo_14 lfX5_19 hB0 (by omega) rfl ?_
    refine x_aload_n C dX5_undo_17 rfl ?_
    refine x_getfield C dX5_undo_18 lfX5_12 hB0 (by omega) rfl ?_
    refine x_callV C dX5_undo_21 (ctX0_takeBack hH hl hS (by decide) hn) okX0_takeBack lkX5_191 ⟨⟨hH0, rfl, rfl⟩, (by omega)⟩ ⟨by decide, rfl, rfl, Nat.le_of_ble_eq_true rfl⟩ rfl (Or.inl ⟨rfl, rfl⟩) ?_
    have hB0 := ((g1 1 (by decide)).trans (zsu_n σ (zO 0 [zr 17, zi o, zi (l - 1)]) (show (1 : Int) ≠ 16 by decide))).trans hB0
    have hH0 := (g1 16 (by decide)).trans (zsu_s σ 16 (zO 0 [zr 17, zi o, zi (l - 1)]))
    refine x_aload_n C dX5_undo_24 rfl ?_
    refine x_getfield C dX5_undo_25 lfX5_19 hB0 (by omega) rfl ?_
    refine x_getfieldN C dX5_undo_28 nfX5_163 hH0 (by omega) rfl ?_
    exact x_iret (st := []) C dX5_undo_31 rfl ⟨congrArg (fun z => some (zi z)) (by first | rfl | omega), rfl, rfl, rfl⟩
  · exact absurd c7 (by omega)
theorem ctX5_saveE (k : Int) (hk : -2147483648 ≤ k ∧ k < 2147483648) (hE : ¬ (0 ≤ k ∧ k < 2)) : zCt 10 0 0 yX5_save cX5_save 2 (some .int) [zr 1, zi k] n σ (some (zi (-2))) n σ := by
  refine zCt.of (by decide) rfl (Nat.le_of_ble_eq_true rfl) (fun K C => ?_)
  refine x_iload_n C dX5_save_0 rfl ?_
  refine x_callS C dX5_save_1 (ctX5_isSlot k hk) okX5_isSlot lkX5_195 ⟨by decide, rfl, rfl, Nat.le_of_ble_eq_true rfl⟩ rfl (Or.inl ⟨rfl, rfl⟩) ?_
  refine x_ifne_d (tgt := 10) C dX5_save_4 (by decide) (fun c4 => ?_) (fun c4 => ?_)
  · exact absurd c4 hE
  · refine x_bipush C dX5_save_7 (by decide) ?_
    exact x_iret (st := []) C dX5_save_9 rfl ⟨congrArg (fun z => some (zi z)) (by first | rfl | omega), rfl, rfl, rfl⟩
theorem ctX5_save (R : RepC σ n X o l Hs Sl f L) (k : Int) (hk : 0 ≤ k ∧ k < 2) : zCt 10 0 0 yX5_save cX5_save 2 (some .int) [zr 1, zi k] n σ (some (zi (zsm (fun m => zroom (X.2.1 m) 3 0 0) 4))) n (zsu (zbec σ (116 + 15 * k) X) (115 + 15 * k) (zO 3 [zr (116 + 15 * k), zi (zb true)])) := by
  obtain ⟨hB, ⟨hS, hok⟩, -, ⟨⟨hS0, hSl⟩, -⟩, -⟩ := R
  obtain ⟨hK0, hT⟩ := hSl k hk.1 hk.2
  have hT0 := hT.1
  have hN0 := hS.1
  have hB0 := hB.1
  have hn := hB.2
  have g1 := zbec_ag σ (116 + 15 * k) X
  have g2 : zAg σ (zsu (zbec σ (116 + 15 * k) X) (115 + 15 * k) (zO 3 [zr (116 + 15 * k), zi (zb true)])) (115 + 15 * k) (129 + 15 * k) := fun j hj => by
    rw [zsu_n _ _ (by omega), g1 j (by omega)]
  refine zCt.of (by decide) rfl (Nat.le_of_ble_eq_true rfl) (fun K C => ?_)
  refine x_iload_n C dX5_save_0 rfl ?_
  refine x_callS C dX5_save_1 (ctX5_isSlot k (by omega)) okX5_isSlot lkX5_195 ⟨by decide, rfl, rfl, Nat.le_of_ble_eq_true rfl⟩ rfl (Or.inl ⟨rfl, rfl⟩) ?_
  refine x_ifne_d (tgt := 10) C dX5_save_4 (by decide) (fun c4 => ?_) (fun c4 => ?_)
  · refine x_aload_n C dX5_save_10 rfl ?_
    refine x_getfield C dX5_save_11 lfX5_25 hB0 (by omega) rfl ?_
    refine x_iload_n C dX5_save_14 rfl ?_
    refine x_aaload5 C dX5_save_15 hS0 (by omega) rfl ?_
    refine x_getfieldN C dX5_save_16 nfX5_198 hK0 (by omega) rfl ?_
    refine x_aload_n C dX5_save_19 rfl ?_
    refine x_getfield C dX5_save_20 lfX5_12 hB0 (by omega) rfl ?_
    refine x_callV C dX5_save_23 (ctX4_become hT hS (by omega)) okX4_become lkX5_201 ⟨⟨hT0, rfl, rfl⟩, (by omega)⟩ ⟨by decide, rfl, rfl, Nat.le_of_ble_eq_true rfl⟩ rfl (Or.inl ⟨rfl, rfl⟩) ?_
    have hB0 := (g1 1 (by omega)).trans hB0
    have hS0 := (g1 102 (by omega)).trans hS0
    have hK0 := (g1 (115 + 15 * k) (by omega)).trans hK0
    refine x_aload_n C dX5_save_26 rfl ?_
    refine x_getfield C dX5_save_27 lfX5_25 hB0 (by omega) rfl ?_
    refine x_iload_n C dX5_save_30 rfl ?_
    refine x_aaload5 C dX5_save_31 hS0 (by omega) rfl ?_
    refine x_iconst C dX5_save_32 ?_
    refine x_putZN C dX5_save_33 nfX5_203 lyX3_1 (by first | decide | omega) hK0 (by omega) (Nat.le_of_ble_eq_true rfl) ?_
    have hB0 := (g2 1 (by omega)).trans hB.1
    have hN0 := (g2 2 (by omega)).trans hS.1
    refine x_aload_n C dX5_save_36 rfl ?_
    refine x_getfield C dX5_save_37 lfX5_12 hB0 (by omega) rfl ?_
    refine x_callV C dX5_save_40 (ctX4_room (hS.ag g2 (by omega)) hok) okX4_room lkX5_156 ⟨⟨hN0, rfl, rfl⟩, (by omega)⟩ ⟨by decide, rfl, rfl, Nat.le_of_ble_eq_true rfl⟩ rfl (Or.inl ⟨rfl, rfl⟩) ?_
    exact x_iret (st := []) C dX5_save_43 rfl ⟨congrArg (fun z => some (zi z)) (by first | rfl | omega), rfl, rfl, rfl⟩
  · exact absurd hk c4
theorem ctX5_restoreE (k : Int) (hk : -2147483648 ≤ k ∧ k < 2147483648) (hE : ¬ (0 ≤ k ∧ k < 2)) : zCt 10 0 0 yX5_restore cX5_restore 2 (some .int) [zr 1, zi k] n σ (some (zi (-2))) n σ := by
  refine zCt.of (by decide) rfl (Nat.le_of_ble_eq_true rfl) (fun K C => ?_)
  refine x_iload_n C dX5_restore_0 rfl ?_
  refine x_callS C dX5_restore_1 (ctX5_isSlot k hk) okX5_isSlot lkX5_195 ⟨by decide, rfl, rfl, Nat.le_of_ble_eq_true rfl⟩ rfl (Or.inl ⟨rfl, rfl⟩) ?_
  refine x_ifne_d (tgt := 10) C dX5_restore_4 (by decide) (fun c4 => ?_) (fun c4 => ?_)
  · exact absurd c4 hE
  · refine x_bipush C dX5_restore_7 (by decide) ?_
    exact x_iret (st := []) C dX5_restore_9 rfl ⟨congrArg (fun z => some (zi z)) (by first | rfl | omega), rfl, rfl, rfl⟩
theorem ctX5_restoreN (R : RepC σ n X o l Hs Sl f L) (k : Int) (hk : 0 ≤ k ∧ k < 2) (hs : (Sl k).2 = false) : zCt 10 0 0 yX5_restore cX5_restore 2 (some .int) [zr 1, zi k] n σ (some (zi (-5))) n σ := by
  obtain ⟨hB, -, -, ⟨⟨hS0, hSl⟩, -⟩, -⟩ := R
  obtain ⟨hK0, hT⟩ := hSl k hk.1 hk.2
  have hB0 := hB.1
  have hn := hB.2
  refine zCt.of (by decide) rfl (Nat.le_of_ble_eq_true rfl) (fun K C => ?_)
  refine x_iload_n C dX5_restore_0 rfl ?_
  refine x_callS C dX5_restore_1 (ctX5_isSlot k (by omega)) okX5_isSlot lkX5_195 ⟨by decide, rfl, rfl, Nat.le_of_ble_eq_true rfl⟩ rfl (Or.inl ⟨rfl, rfl⟩) ?_
  refine x_ifne_d (tgt := 10) C dX5_restore_4 (by decide) (fun c4 => ?_) (fun c4 => ?_)
  · refine x_aload_n C dX5_restore_10 rfl ?_
    refine x_getfield C dX5_restore_11 lfX5_25 hB0 (by omega) rfl ?_
    refine x_iload_n C dX5_restore_14 rfl ?_
    refine x_aaload5 C dX5_restore_15 hS0 (by omega) rfl ?_
    refine x_getfieldN C dX5_restore_16 nfX5_203 hK0 (by omega) rfl ?_
    refine x_ifne_b (tgt := 25) C dX5_restore_19 (by decide) (fun c19 => ?_) (fun c19 => ?_)
    · exact absurd (hs.symm.trans c19) (by decide)
    · refine x_bipush C dX5_restore_22 (by decide) ?_
      exact x_iret (st := []) C dX5_restore_24 rfl ⟨congrArg (fun z => some (zi z)) (by first | rfl | omega), rfl, rfl, rfl⟩
  · exact absurd hk c4
theorem ctX5_restore (R : RepC σ n X o l Hs Sl f L) (k : Int) (hk : 0 ≤ k ∧ k < 2) (hs : (Sl k).2 = true) : zCt 10 0 0 yX5_restore cX5_restore 2 (some .int) [zr 1, zi k] n σ (some (zi (zsm (fun m => zroom ((Sl k).1.2.1 m) 3 0 0) 4))) n (zbec (zsu (zbec σ (18 + 14 * ((o + l) % 6)) X) 16 (zO 0 [zr 17, zi (zkO o l), zi (zkL l)])) 2 (Sl k).1) := by
  obtain ⟨hB, ⟨hS, hok⟩, ⟨hH, -⟩, ⟨⟨hS0, hSl⟩, hslok⟩, -⟩ := R
  obtain ⟨hK0, hT⟩ := hSl k hk.1 hk.2
  have hT0 := hT.1
  have hN0 := hS.1
  have hH0 := hH.1
  have hb := hH.2.2.1
  have hB0 := hB.1
  have hn := hB.2
  have g2 : zAg σ (zsu (zbec σ (18 + 14 * ((o + l) % 6)) X) 16 (zO 0 [zr 17, zi (zkO o l), zi (zkL l)])) 16 101 := fun j hj => by
    rw [zsu_n _ _ (by omega), zbec_ag σ _ X j (by omega)]
  have g3 := zbec_ag (zsu (zbec σ (18 + 14 * ((o + l) % 6)) X) 16 (zO 0 [zr 17, zi (zkO o l), zi (zkL l)])) 2 (Sl k).1
  refine zCt.of (by decide) rfl (Nat.le_of_ble_eq_true rfl) (fun K C => ?_)
  refine x_iload_n C dX5_restore_0 rfl ?_
  refine x_callS C dX5_restore_1 (ctX5_isSlot k (by omega)) okX5_isSlot lkX5_195 ⟨by decide, rfl, rfl, Nat.le_of_ble_eq_true rfl⟩ rfl (Or.inl ⟨rfl, rfl⟩) ?_
  refine x_ifne_d (tgt := 10) C dX5_restore_4 (by decide) (fun c4 => ?_) (fun c4 => ?_)
  · refine x_aload_n C dX5_restore_10 rfl ?_
    refine x_getfield C dX5_restore_11 lfX5_25 hB0 (by omega) rfl ?_
    refine x_iload_n C dX5_restore_14 rfl ?_
    refine x_aaload5 C dX5_restore_15 hS0 (by omega) rfl ?_
    refine x_getfieldN C dX5_restore_16 nfX5_203 hK0 (by omega) rfl ?_
    refine x_ifne_b (tgt := 25) C dX5_restore_19 (by decide) (fun c19 => ?_) (fun c19 => ?_)
    · refine x_aload_n C dX5_restore_25 rfl ?_
      refine x_getfield C dX5_restore_26 lfX5_19 hB0 (by omega) rfl ?_
      refine x_aload_n C dX5_restore_29 rfl ?_
      refine x_getfield C dX5_restore_30 lfX5_12 hB0 (by omega) rfl ?_
      refine x_callV C dX5_restore_33 (ctX0_keep2 hH hS (by omega) hn) okX0_keep lkX5_207 ⟨⟨hH0, rfl, rfl⟩, (by omega)⟩ ⟨by decide, rfl, rfl, Nat.le_of_ble_eq_true rfl⟩ rfl (Or.inl ⟨rfl, rfl⟩) ?_
      have hB0 := (g2 1 (by omega)).trans hB0
      have hN0 := (g2 2 (by omega)).trans hN0
      have hS0 := (g2 102 (by omega)).trans hS0
      have hK0 := (g2 (115 + 15 * k) (by omega)).trans hK0
      refine x_aload_n C dX5_restore_36 rfl ?_
      refine x_getfield C dX5_restore_37 lfX5_12 hB0 (by omega) rfl ?_
      refine x_aload_n C dX5_restore_40 rfl ?_
      refine x_getfield C dX5_restore_41 lfX5_25 hB0 (by omega) rfl ?_
      refine x_iload_n C dX5_restore_44 rfl ?_
      refine x_aaload5 C dX5_restore_45 hS0 (by omega) rfl ?_
      refine x_getfieldN C dX5_restore_46 nfX5_198 hK0 (by omega) rfl ?_
      refine x_callV C dX5_restore_49 (ctX4_become (hS.ag g2 (by omega)) (hT.ag g2 (by omega)) (by omega)) okX4_become lkX5_201 ⟨⟨hN0, rfl, rfl⟩, (by omega)⟩ ⟨by decide, rfl, rfl, Nat.le_of_ble_eq_true rfl⟩ rfl (Or.inl ⟨rfl, rfl⟩) ?_
      have hB0 := (g3 1 (by omega)).trans hB0
      have hS2 := zbec_is (Sl k).1 (hS.ag g2 (by omega))
      have hN0 := hS2.1
      refine x_aload_n C dX5_restore_52 rfl ?_
      refine x_getfield C dX5_restore_53 lfX5_12 hB0 (by omega) rfl ?_
      refine x_callV C dX5_restore_56 (ctX4_room hS2 (hslok k)) okX4_room lkX5_156 ⟨⟨hN0, rfl, rfl⟩, (by omega)⟩ ⟨by decide, rfl, rfl, Nat.le_of_ble_eq_true rfl⟩ rfl (Or.inl ⟨rfl, rfl⟩) ?_
      exact x_iret (st := []) C dX5_restore_59 rfl ⟨congrArg (fun z => some (zi z)) (by first | rfl | omega), rfl, rfl, rfl⟩
    · exact absurd (hs.symm.trans c19) (by decide)
  · exact absurd hk c4
theorem ctX5_putE {z : Int} (hz : -9223372036854775808 ≤ z ∧ z < 9223372036854775808) {k : Nat} (hk : zsgn (z % 18446744073709551616) k) {p x r : Int} (hB : isB σ n) (hP0 : σ 103 = zPO L p x) (hL : 0 ≤ L ∧ L ≤ 80) (hk8 : k ≤ 8) (hE : (r = -2 ∧ k = 0) ∨ (r = -4 ∧ k ≠ 0 ∧ 80 < L + k)) : zCt 3 0 0 yX5_put cX5_put 5 (some .int) [zr 1, zl z] n σ (some (zi r)) n σ := by
  have hB0 := hB.1
  have hn := hB.2
  refine zCt.of (by decide) rfl (Nat.le_of_ble_eq_true rfl) (fun K C => ?_)
  refine x_lload_n C dX5_put_0 rfl ?_
  refine x_callS C dX5_put_1 (ctX5_signsIn hz hk) okX5_signsIn lkX5_178 ⟨by decide, rfl, rfl, Nat.le_of_ble_eq_true rfl⟩ rfl (Or.inl ⟨rfl, rfl⟩) ?_
  refine x_istore_n C dX5_put_4 (by decide) ?_
  refine x_iload_n C dX5_put_5 rfl ?_
  refine x_if_ne (tgt := 12) C dX5_put_6 (by decide) (by omega) (fun c6 => ?_) (fun c6 => ?_)
  · refine x_iload_n C dX5_put_12 rfl ?_
    refine x_bipush C dX5_put_13 (by decide) ?_
    refine x_aload_n C dX5_put_15 rfl ?_
    refine x_getfield C dX5_put_16 lfX5_32 hB0 (by omega) rfl ?_
    refine x_getfieldN C dX5_put_19 nfX5_70 hP0 (by omega) rfl ?_
    refine x_isub C dX5_put_22 ?_
    refine x_icmp_le (tgt := 29) C dX5_put_23 (by decide) (by omega) (fun c23 => ?_) (fun c23 => ?_)
    · exact absurd c23 (by omega)
    · refine x_bipush C dX5_put_26 (by decide) ?_
      exact x_iret (st := []) C dX5_put_28 rfl ⟨congrArg (fun z => some (zi z)) (by first | rfl | omega), rfl, rfl, rfl⟩
  · refine x_bipush C dX5_put_9 (by decide) ?_
    exact x_iret (st := []) C dX5_put_11 rfl ⟨congrArg (fun z => some (zi z)) (by first | rfl | omega), rfl, rfl, rfl⟩
theorem ctX5_put {z : Int} (hz : -9223372036854775808 ≤ z ∧ z < 9223372036854775808) {k : Nat} (hk : zsgn (z % 18446744073709551616) k) {p x : Int} (hB : isB σ n) (hP0 : σ 103 = zPO L p x) (hP1 : σ 104 = zP 2 80 f) (hL : 0 ≤ L ∧ L + k ≤ 80) (hk8 : 0 < k ∧ k ≤ 8) : zCt 3 0 0 yX5_put cX5_put 5 (some .int) [zr 1, zl z] n σ (some (zi (L + k))) n (zsu (zsu σ 104 (zP 2 80 (fun j => if L ≤ j ∧ j < L + k then z % 18446744073709551616 / 256 ^ (L + k - 1 - j).toNat % 256 else f j))) 103 (zPO (L + k) p x)) := by
  have hB0 := hB.1
  have hn := hB.2
  refine zCt.of (by decide) rfl (Nat.le_of_ble_eq_true rfl) (fun K C => ?_)
  have loop : ∀ i : Nat, i ≤ k → K 34 [some (zr 1), some (zl z), none, some (zi (k : Int)), some (zi ((k : Int) - 1 - i))] [] n (zsu (zsu σ 104 (zP 2 80 (fun j => if L ≤ j ∧ j < L + i then z % 18446744073709551616 / 256 ^ (L + k - 1 - j).toNat % 256 else f j))) 103 (zPO (L + i) p x)) 0 := by
    refine zloop _ k (fun i hi ih => ?_)
    have hB0 := ((zsu_n _ (zPO (L + i) p x) (show (1 : Int) ≠ 103 by decide)).trans (zsu_n σ (zP 2 80 (fun j => if L ≤ j ∧ j < L + (i : Int) then z % 18446744073709551616 / 256 ^ (L + k - 1 - j).toNat % 256 else f j)) (show (1 : Int) ≠ 104 by decide))).trans hB.1
    have hP0 := zsu_s (zsu σ 104 (zP 2 80 (fun j => if L ≤ j ∧ j < L + (i : Int) then z % 18446744073709551616 / 256 ^ (L + k - 1 - j).toNat % 256 else f j))) 103 (zPO (L + i) p x)
    have hP1 := (zsu_n _ (zPO (L + i) p x) (show (104 : Int) ≠ 103 by decide)).trans (zsu_s σ 104 (zP 2 80 (fun j => if L ≤ j ∧ j < L + (i : Int) then z % 18446744073709551616 / 256 ^ (L + k - 1 - j).toNat % 256 else f j)))
    refine x_iload C dX5_put_34 rfl ?_
    refine x_if_lt (tgt := 65) C dX5_put_36 (by decide) (by omega) (fun c36 => ?_) (fun c36 => ?_)
    · refine x_aload_n C dX5_put_65 rfl ?_
      refine x_getfield C dX5_put_66 lfX5_32 hB0 (by omega) rfl ?_
      refine x_getfieldN C dX5_put_69 nfX5_70 hP0 (by omega) rfl ?_
      exact x_iret (st := []) C dX5_put_72 rfl ⟨congrArg (fun z => some (zi z)) (by rw [show i = k by omega]), rfl, by rw [show i = k by omega], rfl⟩
    · refine x_aload_n C dX5_put_39 rfl ?_
      refine x_getfield C dX5_put_40 lfX5_32 hB0 (by omega) rfl ?_
      refine x_lload_n C dX5_put_43 rfl ?_
      refine x_iload C dX5_put_44 rfl ?_
      refine x_bipush C dX5_put_46 (by decide) ?_
      refine x_imul C dX5_put_48 ?_
      refine x_lushr C dX5_put_49 (by omega) ?_
      refine x_ldc2 (v := 255) C dX5_put_50 kcX5_182 (by decide) ?_
      refine x_land C dX5_put_53 ?_
      have hpw : (2 : Int) ^ (((k : Int) - 1 - i) * 8).toNat = 256 ^ (k - 1 - i) := by rw [show (k : Int) - 1 - i = ((k - 1 - i : Nat) : Int) by omega]; exact z8_256 _
      rw [zandl_255, hpw]
      have hby := Int.emod_nonneg (z % 18446744073709551616 / 256 ^ (k - 1 - i)) (show (256 : Int) ≠ 0 by decide)
      have hby2 := Int.emod_lt_of_pos (z % 18446744073709551616 / 256 ^ (k - 1 - i)) (show (0 : Int) < 256 by decide)
      refine x_l2i C dX5_put_54 ?_
      refine x_i2c C dX5_put_55 (by omega) ?_
      refine x_callV C dX5_put_56 (ctX2_append hP0 hP1 (by omega) (by omega) hn) okX2_append lkX5_184 ⟨⟨hP0, rfl, rfl⟩, (by omega)⟩ ⟨by decide, rfl, rfl, Nat.le_of_ble_eq_true rfl⟩ rfl (Or.inl ⟨rfl, rfl⟩) ?_
      refine x_iinc C dX5_put_59 rfl (by decide) ?_
      refine x_goto (tgt := 34) C dX5_put_62 (by decide) ?_
      have ih := ih (by omega)
      have e1 : (k : Int) - 1 - i + (-1) = (k : Int) - 1 - ((i + 1 : Nat) : Int) := by omega
      have e2 : (L + (i : Int)) + 1 = L + ((i + 1 : Nat) : Int) := by omega
      have e3 : zu (fun j => if L ≤ j ∧ j < L + (i : Int) then z % 18446744073709551616 / 256 ^ (L + k - 1 - j).toNat % 256 else f j) (L + i) (z % 18446744073709551616 / 256 ^ (k - 1 - i) % 256) = fun j => if L ≤ j ∧ j < L + ((i + 1 : Nat) : Int) then z % 18446744073709551616 / 256 ^ (L + k - 1 - j).toNat % 256 else f j := by
        funext j
        unfold zu
        by_cases q : j = L + i
        · rw [if_pos q, if_pos (by omega), show (L + k - 1 - j).toNat = k - 1 - i by omega]
        · rw [if_neg q]
          dsimp only
          by_cases q2 : L ≤ j ∧ j < L + (i : Int)
          · rw [if_pos q2, if_pos (by omega)]
          · rw [if_neg q2, if_neg (by omega)]
      rw [e1, e2, e3, zsu_comm _ _ _ (show (103 : Int) ≠ 104 by decide), zsu_u, zsu_u]
      exact ih
  refine x_lload_n C dX5_put_0 rfl ?_
  refine x_callS C dX5_put_1 (ctX5_signsIn hz hk) okX5_signsIn lkX5_178 ⟨by decide, rfl, rfl, Nat.le_of_ble_eq_true rfl⟩ rfl (Or.inl ⟨rfl, rfl⟩) ?_
  refine x_istore_n C dX5_put_4 (by decide) ?_
  refine x_iload_n C dX5_put_5 rfl ?_
  refine x_if_ne (tgt := 12) C dX5_put_6 (by decide) (by omega) (fun c6 => ?_) (fun c6 => ?_)
  · refine x_iload_n C dX5_put_12 rfl ?_
    refine x_bipush C dX5_put_13 (by decide) ?_
    refine x_aload_n C dX5_put_15 rfl ?_
    refine x_getfield C dX5_put_16 lfX5_32 hB0 (by omega) rfl ?_
    refine x_getfieldN C dX5_put_19 nfX5_70 hP0 (by omega) rfl ?_
    refine x_isub C dX5_put_22 ?_
    refine x_icmp_le (tgt := 29) C dX5_put_23 (by decide) (by omega) (fun c23 => ?_) (fun c23 => ?_)
    · refine x_iload_n C dX5_put_29 rfl ?_
      refine x_iconst C dX5_put_30 ?_
      refine x_isub C dX5_put_31 ?_
      refine x_istore C dX5_put_32 (by decide) ?_
      have l0 := loop 0 (by omega)
      rw [show (fun j => if L ≤ j ∧ j < L + ((0 : Nat) : Int) then z % 18446744073709551616 / 256 ^ (L + k - 1 - j).toNat % 256 else f j) = f from funext fun j => if_neg (by omega), zsu_self hP1, show L + ((0 : Nat) : Int) = L from Int.add_zero L, zsu_self hP0, show (k : Int) - 1 - ((0 : Nat) : Int) = (k : Int) - 1 by omega] at l0
      exact x_wk C rfl l0
    · exact absurd c23 (by omega)
  · exact absurd c6 (by omega)
end
