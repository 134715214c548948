section
variable {n : Nat} {σ : zS} {X : zSV} {o l : Int} {Hs : Int → zSV} {Sl : Int → zSV × Bool} {f : Int → Int} {L : Int}
theorem ctX5_entryE (m row col v : Int) (hm : -2147483648 ≤ m ∧ m < 2147483648) (hr : -2147483648 ≤ row ∧ row < 2147483648) (hc : -2147483648 ≤ col ∧ col < 2147483648) (hv : -2147483648 ≤ v ∧ v < 2147483648) {r : Int} (hq : (r = -1 ∧ ¬ ((0 ≤ m ∧ m < 4) ∧ (0 ≤ row ∧ row < 16) ∧ 0 ≤ col ∧ col < 16)) ∨ (r = -2 ∧ ((0 ≤ m ∧ m < 4) ∧ (0 ≤ row ∧ row < 16) ∧ 0 ≤ col ∧ col < 16) ∧ ¬ (-1000000 ≤ v ∧ v ≤ 1000000))) : zCt 6 0 0 yX5_entry cX5_entry 6 (some .int) [zr 1, zi m, zi row, zi col, zi v] n σ (some (zi r)) n σ := by
  refine zCt.of (by decide) rfl (Nat.le_of_ble_eq_true rfl) (fun K C => ?_)
  refine x_iload_n C dX5_entry_0 rfl ?_
  refine x_iload_n C dX5_entry_1 rfl ?_
  refine x_iload_n C dX5_entry_2 rfl ?_
  refine x_callS C dX5_entry_3 (ctX5_isPlace m row col hm hr hc) okX5_isPlace lkX5_78 ⟨by decide, rfl, rfl, Nat.le_of_ble_eq_true rfl⟩ rfl (Or.inl ⟨rfl, rfl⟩) ?_
  refine x_ifne_d (tgt := 11) C dX5_entry_6 (by decide) (fun c6 => ?_) (fun c6 => ?_)
  · refine x_iload C dX5_entry_11 rfl ?_
    refine x_ldc (v := 1000000) C dX5_entry_13 kcX5_82 (by decide) ?_
    refine x_callS C dX5_entry_15 (ctX5_isWithin v 1000000 hv (by decide)) okX5_isWithin lkX5_83 ⟨by decide, rfl, rfl, Nat.le_of_ble_eq_true rfl⟩ rfl (Or.inl ⟨rfl, rfl⟩) ?_
    refine x_ifne_d (tgt := 24) C dX5_entry_18 (by decide) (fun c18 => ?_) (fun c18 => ?_)
    · exact absurd c18 (by omega)
    · refine x_bipush C dX5_entry_21 (by decide) ?_
      exact x_iret (st := []) C dX5_entry_23 rfl ⟨congrArg (fun z => some (zi z)) (by first | rfl | omega), rfl, rfl, rfl⟩
  · refine x_iconst C dX5_entry_9 ?_
    exact x_iret (st := []) C dX5_entry_10 rfl ⟨congrArg (fun z => some (zi z)) (by first | rfl | omega), rfl, rfl, rfl⟩
theorem ctX5_entry (R : RepC σ n X o l Hs Sl f L) (m row col v : Int) (hm : 0 ≤ m ∧ m < 4) (hr : 0 ≤ row ∧ row < 16) (hc : 0 ≤ col ∧ col < 16) (hv : -1000000 ≤ v ∧ v ≤ 1000000) : zCt 6 0 0 yX5_entry cX5_entry 6 (some .int) [zr 1, zi m, zi row, zi col, zi v] n σ (some (zi (X.1 m (row * 16 + col) + 1000000))) n (sM (zbc σ X o l) (2 + 2 + 3 * m) (zu (X.1 m) (row * 16 + col) v) (zu (zcuts (X.2.1 m) row col 3) (zno 3 row col) 1)) := by
  obtain ⟨hB, ⟨hS, hok⟩, ⟨hH, -⟩, -⟩ := R
  obtain ⟨hN0, hN1, hin, hmat⟩ := id hS
  have hmm := hmat m hm.1 hm.2
  have hA := hmm.1
  have hB0 := hB.1
  have hn := hB.2
  refine zCt.of (by decide) rfl (Nat.le_of_ble_eq_true rfl) (fun K C => ?_)
  refine x_iload_n C dX5_entry_0 rfl ?_
  refine x_iload_n C dX5_entry_1 rfl ?_
  refine x_iload_n C dX5_entry_2 rfl ?_
  refine x_callS C dX5_entry_3 (ctX5_isPlace m row col (by omega) (by omega) (by omega)) okX5_isPlace lkX5_78 ⟨by decide, rfl, rfl, Nat.le_of_ble_eq_true rfl⟩ rfl (Or.inl ⟨rfl, rfl⟩) ?_
  refine x_ifne_d (tgt := 11) C dX5_entry_6 (by decide) (fun c6 => ?_) (fun c6 => ?_)
  · refine x_iload C dX5_entry_11 rfl ?_
    refine x_ldc (v := 1000000) C dX5_entry_13 kcX5_82 (by decide) ?_
    refine x_callS C dX5_entry_15 (ctX5_isWithin v 1000000 (by omega) (by decide)) okX5_isWithin lkX5_83 ⟨by decide, rfl, rfl, Nat.le_of_ble_eq_true rfl⟩ rfl (Or.inl ⟨rfl, rfl⟩) ?_
    refine x_ifne_d (tgt := 24) C dX5_entry_18 (by decide) (fun c18 => ?_) (fun c18 => ?_)
    · refine x_aload_n C dX5_entry_24 rfl ?_
      refine x_getfield C dX5_entry_25 lfX5_12 hB0 (by omega) rfl ?_
      refine x_getfieldN C dX5_entry_28 nfX5_59 hN0 (by omega) rfl ?_
      refine x_iload_n C dX5_entry_31 rfl ?_
      refine x_aaload3 C dX5_entry_32 hN1 (by omega) rfl ?_
      refine x_iload_n C dX5_entry_33 rfl ?_
      refine x_iload_n C dX5_entry_34 rfl ?_
      refine x_callV C dX5_entry_35 (ctX1_entryAt hmm row col hr hc) okX1_entryAt lkX5_87 ⟨⟨hA, rfl, rfl⟩, (by omega)⟩ ⟨by decide, rfl, rfl, Nat.le_of_ble_eq_true rfl⟩ rfl (Or.inl ⟨rfl, rfl⟩) ?_
      refine x_istore C dX5_entry_38 (by decide) ?_
      refine x_aload_n C dX5_entry_40 rfl ?_
      refine x_callV C dX5_entry_41 (ctX5_beginChange hB hH hS) okX5_beginChange lkX5_56 ⟨⟨hB0, rfl, rfl⟩, (by omega)⟩ ⟨by decide, rfl, rfl, Nat.le_of_ble_eq_true rfl⟩ rfl (Or.inl ⟨rfl, rfl⟩) ?_
      obtain ⟨hH1, hS1⟩ := zbc_is hH hS
      obtain ⟨hN0, hN1, hin, hmat⟩ := id hS1
      have hB1 := hB.ag (zbc_ag (σ := σ) (X := X) (o := o) (l := l)) (by decide)
      have hB0 := hB1.1
      have hmm := hmat m hm.1 hm.2
      have hA := hmm.1
      refine x_aload_n C dX5_entry_44 rfl ?_
      refine x_getfield C dX5_entry_45 lfX5_12 hB0 (by omega) rfl ?_
      refine x_getfieldN C dX5_entry_48 nfX5_59 hN0 (by omega) rfl ?_
      refine x_iload_n C dX5_entry_51 rfl ?_
      refine x_aaload3 C dX5_entry_52 hN1 (by omega) rfl ?_
      refine x_iload_n C dX5_entry_53 rfl ?_
      refine x_iload_n C dX5_entry_54 rfl ?_
      refine x_iload C dX5_entry_55 rfl ?_
      refine x_callV C dX5_entry_57 (ctX1_changeEntry hmm (hok.2 m) row col v hr hc) okX1_changeEntry lkX5_91 ⟨⟨hA, rfl, rfl⟩, (by omega)⟩ ⟨by decide, rfl, rfl, Nat.le_of_ble_eq_true rfl⟩ rfl (Or.inl ⟨rfl, rfl⟩) ?_
      refine x_iload C dX5_entry_60 rfl ?_
      refine x_ldc (v := 1000000) C dX5_entry_62 kcX5_82 (by decide) ?_
      refine x_iadd C dX5_entry_64 ?_
      exact x_iret (st := []) C dX5_entry_65 rfl ⟨congrArg (fun z => some (zi z)) (by first | rfl | omega), rfl, rfl, rfl⟩
    · exact absurd c18 (by omega)
  · exact absurd c6 (by omega)
end
