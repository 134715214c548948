theorem zsf_2 {t e : Int → Int} {d row col : Int} (h : zone e row col (zsz d) = 2) (r : Int) : zsf t e d row col r = (zu t (zno d row col) 0, 0) := if_pos h
theorem zsf_1 {t e : Int → Int} {d row col r : Int} (h : zone e row col (zsz d) = 1 ∧ 2 * zsz d ≤ r) : zsf t e d row col r = (zu t (zno d row col) 2, 2 * zsz d) := (if_neg (by omega)).trans (if_pos h)
theorem zsf_0 {t e : Int → Int} {d row col r : Int} (h2 : ¬ zone e row col (zsz d) = 2) (h : ¬ (zone e row col (zsz d) = 1 ∧ 2 * zsz d ≤ r)) : zsf t e d row col r = (t, r) := (if_neg h2).trans (if_neg h)
theorem ctX1_toldByOne2 {n : Nat} {σ : zS} {h : Int} {e t : Int → Int} (hm : isM σ n h e t) (he : zBd e) (d row col : Int) (hd : 0 ≤ d ∧ d ≤ 3) (hr : 0 ≤ row ∧ row + zsz d ≤ 16) (hc : 0 ≤ col ∧ col + zsz d ≤ 16) : zCt 3 0 0 yX1_toldByOne cX1_toldByOne 10 (some .int) [zr h, zi row, zi col, zi (zsz d)] n σ (some (zi (zone e row col (zsz d)))) n σ := by
  obtain ⟨q, hq, -⟩ := zszN hd
  rw [hq] at hr hc ⊢
  exact ctX1_toldByOne hm he row col q hr hc
theorem ctX1_makeSmallerFrom {n : Nat} {h : Int} {e : Int → Int} (he : zBd e) : ∀ (f : Nat) (σ : zS) (t : Int → Int) (d row col : Int), isM σ n h e t → zSt t → d = 3 - f → 0 ≤ d → (0 ≤ row ∧ row + zsz d ≤ 16) → (0 ≤ col ∧ col + zsz d ≤ 16) → zCt (4 + 2 * f) 0 0 yX1_makeSmallerFrom cX1_makeSmallerFrom 7 (some .int) [zr h, zi d, zi row, zi col] n σ (some (zi (zshr e f t row col).2)) n (sM σ h e (zshr e f t row col).1) := by
  intro f
  induction f with
  | zero =>
    intro σ t d row col hm ht hd hd0 hr hc
    obtain rfl : d = 3 := by omega
    have e3 : zsz 3 = 2 := rfl
    have hzo := zone_in e row col (zsz 3)
    obtain ⟨hM, hE, hT, hh⟩ := hm
    have hm : isM σ n h e t := ⟨hM, hE, hT, hh⟩
    have hr2 := hr
    have hc2 := hc
    rw [e3] at hr2 hc2
    have hin := zrm_in (t (zno 3 row col)) 2 (by decide)
    refine zCt.of (by decide) rfl (Nat.le_of_ble_eq_true rfl) (fun K C => ?_)
    refine x_aload_n C dX1_makeSmallerFrom_0 rfl ?_
    refine x_iload_n C dX1_makeSmallerFrom_1 rfl ?_
    refine x_iload_n C dX1_makeSmallerFrom_2 rfl ?_
    refine x_iload_n C dX1_makeSmallerFrom_3 rfl ?_
    refine x_callV C dX1_makeSmallerFrom_4 (ctX1_isCut ⟨hM, hE, hT, hh⟩ ht 3 row col (by omega) (by omega) (by omega)) okX1_isCut lkX1_39 ⟨⟨hM, rfl, rfl⟩, (by omega)⟩ ⟨by decide, rfl, rfl, Nat.le_of_ble_eq_true rfl⟩ rfl (Or.inl ⟨rfl, rfl⟩) ?_
    refine x_ifeq_d (tgt := 20) C dX1_makeSmallerFrom_7 (by decide) (fun c7 => ?_) (fun c7 => ?_)
    · refine x_aload_n C dX1_makeSmallerFrom_20 rfl ?_
      refine x_iload_n C dX1_makeSmallerFrom_21 rfl ?_
      refine x_iload_n C dX1_makeSmallerFrom_22 rfl ?_
      refine x_iload_n C dX1_makeSmallerFrom_23 rfl ?_
      refine x_callV C dX1_makeSmallerFrom_24 (ctX1_sortOf ⟨hM, hE, hT, hh⟩ 3 row col (by omega) (by omega) (by omega)) okX1_sortOf lkX1_36 ⟨⟨hM, rfl, rfl⟩, (by omega)⟩ ⟨by decide, rfl, rfl, Nat.le_of_ble_eq_true rfl⟩ rfl (Or.inl ⟨rfl, rfl⟩) ?_
      refine x_iload_n C dX1_makeSmallerFrom_27 rfl ?_
      refine x_callSN C dX1_makeSmallerFrom_28 (ctX5_sizeAt 3 (by omega)) okX5_sizeAt nkX1_24 ⟨by decide, rfl, rfl, Nat.le_of_ble_eq_true rfl⟩ rfl (Or.inl ⟨rfl, rfl⟩) ?_
      refine x_callSN C dX1_makeSmallerFrom_31 (ctX5_roomOfUncut _ _ (by have := ht (zno 3 row col); omega)) okX5_roomOfUncut nkX1_54 ⟨by decide, rfl, rfl, Nat.le_of_ble_eq_true rfl⟩ rfl (Or.inl ⟨rfl, rfl⟩) ?_
      refine x_istore C dX1_makeSmallerFrom_34 (by decide) ?_
      refine x_iload_n C dX1_makeSmallerFrom_36 rfl ?_
      refine x_callSN C dX1_makeSmallerFrom_37 (ctX5_sizeAt 3 (by omega)) okX5_sizeAt nkX1_24 ⟨by decide, rfl, rfl, Nat.le_of_ble_eq_true rfl⟩ rfl (Or.inl ⟨rfl, rfl⟩) ?_
      refine x_istore C dX1_makeSmallerFrom_40 (by decide) ?_
      refine x_aload_n C dX1_makeSmallerFrom_42 rfl ?_
      refine x_iload_n C dX1_makeSmallerFrom_43 rfl ?_
      refine x_iload_n C dX1_makeSmallerFrom_44 rfl ?_
      refine x_iload C dX1_makeSmallerFrom_45 rfl ?_
      refine x_callV C dX1_makeSmallerFrom_47 (ctX1_toldByOne2 ⟨hM, hE, hT, hh⟩ he 3 row col (by omega) hr hc) okX1_toldByOne lkX1_87 ⟨⟨hM, rfl, rfl⟩, (by omega)⟩ ⟨by decide, rfl, rfl, Nat.le_of_ble_eq_true rfl⟩ rfl (Or.inl ⟨rfl, rfl⟩) ?_
      refine x_istore C dX1_makeSmallerFrom_50 (by decide) ?_
      refine x_iload C dX1_makeSmallerFrom_52 rfl ?_
      refine x_iconst C dX1_makeSmallerFrom_54 ?_
      refine x_icmp_ne (tgt := 68) C dX1_makeSmallerFrom_55 (by decide) (by omega) (fun c55 => ?_) (fun c55 => ?_)
      · refine x_iload C dX1_makeSmallerFrom_68 rfl ?_
        refine x_iconst C dX1_makeSmallerFrom_70 ?_
        refine x_icmp_ne (tgt := 96) C dX1_makeSmallerFrom_71 (by decide) (by omega) (fun c71 => ?_) (fun c71 => ?_)
        · refine x_iload C dX1_makeSmallerFrom_96 rfl ?_
          exact x_iret (st := []) C dX1_makeSmallerFrom_98 rfl (by have c9 := zsf_0 (t := t) c55 (r := zrm (t (zno 3 row col)) 2) (by first | exact fun q => c71 q.1 | exact fun q => absurd q.2 (Int.not_le.mpr c80)); exact ⟨congrArg (fun z => some (zi z)) (congrArg Prod.snd c9).symm, rfl, (sM_self hm).symm.trans (congrArg (sM σ h e) (congrArg Prod.fst c9).symm), rfl⟩)
        · refine x_iconst C dX1_makeSmallerFrom_74 ?_
          refine x_iload C dX1_makeSmallerFrom_75 rfl ?_
          refine x_imul C dX1_makeSmallerFrom_77 ?_
          refine x_iload C dX1_makeSmallerFrom_78 rfl ?_
          refine x_icmp_gt (tgt := 96) C dX1_makeSmallerFrom_80 (by decide) (by rw [e3]; omega) (fun c80 => ?_) (fun c80 => ?_)
          · refine x_iload C dX1_makeSmallerFrom_96 rfl ?_
            exact x_iret (st := []) C dX1_makeSmallerFrom_98 rfl (by have c9 := zsf_0 (t := t) c55 (r := zrm (t (zno 3 row col)) 2) (by first | exact fun q => c71 q.1 | exact fun q => absurd q.2 (Int.not_le.mpr c80)); exact ⟨congrArg (fun z => some (zi z)) (congrArg Prod.snd c9).symm, rfl, (sM_self hm).symm.trans (congrArg (sM σ h e) (congrArg Prod.fst c9).symm), rfl⟩)
          · refine x_aload_n C dX1_makeSmallerFrom_83 rfl ?_
            refine x_iload_n C dX1_makeSmallerFrom_84 rfl ?_
            refine x_iload_n C dX1_makeSmallerFrom_85 rfl ?_
            refine x_iload_n C dX1_makeSmallerFrom_86 rfl ?_
            refine x_iconst C dX1_makeSmallerFrom_87 ?_
            refine x_callV C dX1_makeSmallerFrom_88 (ctX1_setSort2 ⟨hM, hE, hT, hh⟩ 3 row col 2 (by omega) (by omega) (by omega)) okX1_setSort lkX1_71 ⟨⟨hM, rfl, rfl⟩, (by omega)⟩ ⟨by decide, rfl, rfl, Nat.le_of_ble_eq_true rfl⟩ rfl (Or.inl ⟨rfl, rfl⟩) ?_
            refine x_iconst C dX1_makeSmallerFrom_91 ?_
            refine x_iload C dX1_makeSmallerFrom_92 rfl ?_
            refine x_imul C dX1_makeSmallerFrom_94 ?_
            exact x_iret (st := []) C dX1_makeSmallerFrom_95 rfl ⟨congrArg (fun z => some (zi z)) (congrArg Prod.snd (zsf_1 (t := t) ⟨c71, c80⟩)).symm, rfl, congrArg (sM σ h e) (congrArg Prod.fst (zsf_1 (t := t) ⟨c71, c80⟩)).symm, rfl⟩
      · refine x_aload_n C dX1_makeSmallerFrom_58 rfl ?_
        refine x_iload_n C dX1_makeSmallerFrom_59 rfl ?_
        refine x_iload_n C dX1_makeSmallerFrom_60 rfl ?_
        refine x_iload_n C dX1_makeSmallerFrom_61 rfl ?_
        refine x_iconst C dX1_makeSmallerFrom_62 ?_
        refine x_callV C dX1_makeSmallerFrom_63 (ctX1_setSort2 ⟨hM, hE, hT, hh⟩ 3 row col 0 (by omega) (by omega) (by omega)) okX1_setSort lkX1_71 ⟨⟨hM, rfl, rfl⟩, (by omega)⟩ ⟨by decide, rfl, rfl, Nat.le_of_ble_eq_true rfl⟩ rfl (Or.inl ⟨rfl, rfl⟩) ?_
        refine x_iconst C dX1_makeSmallerFrom_66 ?_
        exact x_iret (st := []) C dX1_makeSmallerFrom_67 rfl ⟨congrArg (fun z => some (zi z)) (congrArg Prod.snd (zsf_2 c55 (t := t) _)).symm, rfl, congrArg (sM σ h e) (congrArg Prod.fst (zsf_2 c55 (t := t) _)).symm, rfl⟩
    · exact absurd c7.1 (by omega)
  | succ f ih =>
    intro σ t d row col hm ht hd hd0 hr hc
    have ed : d = 2 - f := by omega
    have hz := zsz_v (d := d) (by omega)
    have hzo := zone_in e row col (zsz d)
    have e3 : (3 - f : Int) = d + 1 := by omega
    have hparts : zCt (5 + 2 * f) 0 0 yX1_makePartsSmaller cX1_makePartsSmaller 6 (some .int) [zr h, zi d, zi row, zi col] n σ (some (zi (zfo (zstep (zshr e f) row col (zsz (d + 1))) (t, 1) 4).2)) n (sM σ h e (zfo (zstep (zshr e f) row col (zsz (d + 1))) (t, 1) 4).1) := by
      have hSt : ∀ k : Nat, zSt (zfo (zstep (zshr e f) row col (zsz (d + 1))) (t, 1) k).1 := by
        intro k
        induction k with
        | zero => exact ht
        | succ k ih => exact zstep_St (zshr_St e f) row col (zsz (d + 1)) ih k
      refine zCt.of (by decide) rfl (Nat.le_of_ble_eq_true rfl) (fun K C => ?_)
      have loop : ∀ k : Nat, k ≤ 4 → K 6 [some (zr h), some (zi d), some (zi row), some (zi col), some (zi (zfo (zstep (zshr e f) row col (zsz (d + 1))) (t, 1) k).2), some (zi (k : Int))] [] n (sM σ h e (zfo (zstep (zshr e f) row col (zsz (d + 1))) (t, 1) k).1) 0 := by
        refine zloop _ 4 (fun k hk ih2 => ?_)
        obtain ⟨hM, hE, hT, hh⟩ := isM_s hm e (zfo (zstep (zshr e f) row col (zsz (d + 1))) (t, 1) k).1
        refine x_iload C dX1_makePartsSmaller_6 rfl ?_
        refine x_iconst C dX1_makePartsSmaller_8 ?_
        refine x_icmp_ge (tgt := 44) C dX1_makePartsSmaller_9 (by decide) (by omega) (fun c9 => ?_) (fun c9 => ?_)
        · refine x_iload C dX1_makePartsSmaller_44 rfl ?_
          exact x_iret (st := []) C dX1_makePartsSmaller_46 rfl ⟨congrArg (fun z => some (zi z)) (by rw [show k = 4 by omega]), rfl, by rw [show k = 4 by omega], rfl⟩
        · have hp1 := zpart (d := d) (row := row) (p := k) (by omega) (by omega) hr
          have hp2 := zpart (d := d) (row := col) (p := k) (by omega) (by omega) hc
          refine x_iload C dX1_makePartsSmaller_12 rfl ?_
          refine x_aload_n C dX1_makePartsSmaller_14 rfl ?_
          refine x_iload_n C dX1_makePartsSmaller_15 rfl ?_
          refine x_iconst C dX1_makePartsSmaller_16 ?_
          refine x_iadd C dX1_makePartsSmaller_17 ?_
          refine x_iload_n C dX1_makePartsSmaller_18 rfl ?_
          refine x_iload_n C dX1_makePartsSmaller_19 rfl ?_
          refine x_iload C dX1_makePartsSmaller_20 rfl ?_
          refine x_callS C dX1_makePartsSmaller_22 (ctX1_rowOfPart d row _ (by omega) (by omega)) okX1_rowOfPart lkX1_57 ⟨by omega, rfl, rfl, Nat.le_of_ble_eq_true rfl⟩ rfl (Or.inl ⟨rfl, rfl⟩) ?_
          refine x_iload_n C dX1_makePartsSmaller_25 rfl ?_
          refine x_iload_n C dX1_makePartsSmaller_26 rfl ?_
          refine x_iload C dX1_makePartsSmaller_27 rfl ?_
          refine x_callS C dX1_makePartsSmaller_29 (ctX1_columnOfPart d col _ (by omega) (by omega)) okX1_columnOfPart lkX1_60 ⟨by omega, rfl, rfl, Nat.le_of_ble_eq_true rfl⟩ rfl (Or.inl ⟨rfl, rfl⟩) ?_
          refine x_callV C dX1_makePartsSmaller_32 (ih _ _ (d + 1) _ _ ⟨hM, hE, hT, hh⟩ (hSt k) (by omega) (by omega) hp1.1 hp2.2) okX1_makeSmallerFrom lkX1_81 ⟨⟨hM, rfl, rfl⟩, (by omega)⟩ ⟨by omega, rfl, rfl, Nat.le_of_ble_eq_true rfl⟩ rfl (Or.inl ⟨rfl, rfl⟩) ?_
          rw [sM_sM]
          refine x_iadd C dX1_makePartsSmaller_35 ?_
          refine x_istore C dX1_makePartsSmaller_36 (by decide) ?_
          refine x_iinc C dX1_makePartsSmaller_38 rfl (by decide) ?_
          refine x_goto (tgt := 6) C dX1_makePartsSmaller_41 (by decide) ?_
          exact ih2 (by omega)
      refine x_iconst C dX1_makePartsSmaller_0 ?_
      refine x_istore C dX1_makePartsSmaller_1 (by decide) ?_
      refine x_iconst C dX1_makePartsSmaller_3 ?_
      refine x_istore C dX1_makePartsSmaller_4 (by decide) ?_
      have l0 := loop 0 (by omega)
      rw [show (zfo (zstep (zshr e f) row col (zsz (d + 1))) (t, 1) 0).1 = t from rfl, sM_self hm] at l0
      exact l0
    have hpr := zstep_in (zshr_in e f (by omega)) row col (zsz (d + 1)) t 4
    have hmx : zmx f ≤ 100000 := by
      have : f = 0 ∨ f = 1 ∨ f = 2 := by omega
      rcases this with rfl | rfl | rfl <;> decide
    have hfin : ∀ (t1 : Int → Int) (r : Int), zshr e (f + 1) t row col = zsf t1 e d row col r → (0 ≤ r ∧ r ≤ 1000000) → ∀ K : zKT, zX yX1_makeSmallerFrom cX1_makeSmallerFrom 7 (some .int) (4 + 2 * (f + 1)) 0 0 n (fun v n1 σ1 w => v = some (zi (zshr e (f + 1) t row col).2) ∧ n1 = n ∧ σ1 = sM σ h e (zshr e (f + 1) t row col).1 ∧ w = 0) K → K 34 [some (zr h), some (zi d), some (zi row), some (zi col), none, none, none] [zi r] n (sM σ h e t1) 0 := by
      intro t1 r hq hr1 K C
      obtain ⟨hM, hE, hT, hh⟩ := isM_s hm e t1
      refine x_istore C dX1_makeSmallerFrom_34 (by decide) ?_
      refine x_iload_n C dX1_makeSmallerFrom_36 rfl ?_
      refine x_callSN C dX1_makeSmallerFrom_37 (ctX5_sizeAt d (by omega)) okX5_sizeAt nkX1_24 ⟨by omega, rfl, rfl, Nat.le_of_ble_eq_true rfl⟩ rfl (Or.inl ⟨rfl, rfl⟩) ?_
      refine x_istore C dX1_makeSmallerFrom_40 (by decide) ?_
      refine x_aload_n C dX1_makeSmallerFrom_42 rfl ?_
      refine x_iload_n C dX1_makeSmallerFrom_43 rfl ?_
      refine x_iload_n C dX1_makeSmallerFrom_44 rfl ?_
      refine x_iload C dX1_makeSmallerFrom_45 rfl ?_
      refine x_callV C dX1_makeSmallerFrom_47 (ctX1_toldByOne2 ⟨hM, hE, hT, hh⟩ he d row col (by omega) hr hc) okX1_toldByOne lkX1_87 ⟨⟨hM, rfl, rfl⟩, (by omega)⟩ ⟨by omega, rfl, rfl, Nat.le_of_ble_eq_true rfl⟩ rfl (Or.inl ⟨rfl, rfl⟩) ?_
      refine x_istore C dX1_makeSmallerFrom_50 (by decide) ?_
      refine x_iload C dX1_makeSmallerFrom_52 rfl ?_
      refine x_iconst C dX1_makeSmallerFrom_54 ?_
      refine x_icmp_ne (tgt := 68) C dX1_makeSmallerFrom_55 (by decide) (by omega) (fun c55 => ?_) (fun c55 => ?_)
      · refine x_iload C dX1_makeSmallerFrom_68 rfl ?_
        refine x_iconst C dX1_makeSmallerFrom_70 ?_
        refine x_icmp_ne (tgt := 96) C dX1_makeSmallerFrom_71 (by decide) (by omega) (fun c71 => ?_) (fun c71 => ?_)
        · refine x_iload C dX1_makeSmallerFrom_96 rfl ?_
          exact x_iret (st := []) C dX1_makeSmallerFrom_98 rfl (by rw [hq, zsf_0 c55 (by first | exact fun q => c71 q.1 | exact fun q => absurd q.2 (Int.not_le.mpr c80))]; exact ⟨rfl, rfl, rfl, rfl⟩)
        · refine x_iconst C dX1_makeSmallerFrom_74 ?_
          refine x_iload C dX1_makeSmallerFrom_75 rfl ?_
          refine x_imul C dX1_makeSmallerFrom_77 ?_
          refine x_iload C dX1_makeSmallerFrom_78 rfl ?_
          refine x_icmp_gt (tgt := 96) C dX1_makeSmallerFrom_80 (by decide) (by omega) (fun c80 => ?_) (fun c80 => ?_)
          · refine x_iload C dX1_makeSmallerFrom_96 rfl ?_
            exact x_iret (st := []) C dX1_makeSmallerFrom_98 rfl (by rw [hq, zsf_0 c55 (by first | exact fun q => c71 q.1 | exact fun q => absurd q.2 (Int.not_le.mpr c80))]; exact ⟨rfl, rfl, rfl, rfl⟩)
          · refine x_aload_n C dX1_makeSmallerFrom_83 rfl ?_
            refine x_iload_n C dX1_makeSmallerFrom_84 rfl ?_
            refine x_iload_n C dX1_makeSmallerFrom_85 rfl ?_
            refine x_iload_n C dX1_makeSmallerFrom_86 rfl ?_
            refine x_iconst C dX1_makeSmallerFrom_87 ?_
            refine x_callV C dX1_makeSmallerFrom_88 (ctX1_setSort2 ⟨hM, hE, hT, hh⟩ d row col 2 (by omega) (by omega) (by omega)) okX1_setSort lkX1_71 ⟨⟨hM, rfl, rfl⟩, (by omega)⟩ ⟨by omega, rfl, rfl, Nat.le_of_ble_eq_true rfl⟩ rfl (Or.inl ⟨rfl, rfl⟩) ?_
            rw [sM_sM]
            refine x_iconst C dX1_makeSmallerFrom_91 ?_
            refine x_iload C dX1_makeSmallerFrom_92 rfl ?_
            refine x_imul C dX1_makeSmallerFrom_94 ?_
            exact x_iret (st := []) C dX1_makeSmallerFrom_95 rfl (by rw [hq, zsf_1 ⟨c71, c80⟩]; exact ⟨rfl, rfl, rfl, rfl⟩)
      · refine x_aload_n C dX1_makeSmallerFrom_58 rfl ?_
        refine x_iload_n C dX1_makeSmallerFrom_59 rfl ?_
        refine x_iload_n C dX1_makeSmallerFrom_60 rfl ?_
        refine x_iload_n C dX1_makeSmallerFrom_61 rfl ?_
        refine x_iconst C dX1_makeSmallerFrom_62 ?_
        refine x_callV C dX1_makeSmallerFrom_63 (ctX1_setSort2 ⟨hM, hE, hT, hh⟩ d row col 0 (by omega) (by omega) (by omega)) okX1_setSort lkX1_71 ⟨⟨hM, rfl, rfl⟩, (by omega)⟩ ⟨by omega, rfl, rfl, Nat.le_of_ble_eq_true rfl⟩ rfl (Or.inl ⟨rfl, rfl⟩) ?_
        rw [sM_sM]
        refine x_iconst C dX1_makeSmallerFrom_66 ?_
        exact x_iret (st := []) C dX1_makeSmallerFrom_67 rfl (by rw [hq, zsf_2 c55]; exact ⟨rfl, rfl, rfl, rfl⟩)
    obtain ⟨hM, hE, hT, hh⟩ := hm
    have hm : isM σ n h e t := ⟨hM, hE, hT, hh⟩
    refine zCt.of (by decide) rfl (Nat.le_of_ble_eq_true rfl) (fun K C => ?_)
    refine x_aload_n C dX1_makeSmallerFrom_0 rfl ?_
    refine x_iload_n C dX1_makeSmallerFrom_1 rfl ?_
    refine x_iload_n C dX1_makeSmallerFrom_2 rfl ?_
    refine x_iload_n C dX1_makeSmallerFrom_3 rfl ?_
    refine x_callV C dX1_makeSmallerFrom_4 (ctX1_isCut ⟨hM, hE, hT, hh⟩ ht d row col (by omega) (by omega) (by omega)) okX1_isCut lkX1_39 ⟨⟨hM, rfl, rfl⟩, (by omega)⟩ ⟨by omega, rfl, rfl, Nat.le_of_ble_eq_true rfl⟩ rfl (Or.inl ⟨rfl, rfl⟩) ?_
    refine x_ifeq_d (tgt := 20) C dX1_makeSmallerFrom_7 (by decide) (fun c7 => ?_) (fun c7 => ?_)
    · have hq9 : zshr e (f + 1) t row col = zsf t e d row col (zrm (t (zno d row col)) (zsz d)) := by rw [zshr_s, ← ed, if_neg (fun q => c7 ⟨by omega, q⟩)]
      have hb9 : 0 ≤ zrm (t (zno d row col)) (zsz d) ∧ zrm (t (zno d row col)) (zsz d) ≤ 1000000 := by have := zrm_in (t (zno d row col)) (zsz d) (by omega); omega
      refine x_aload_n C dX1_makeSmallerFrom_20 rfl ?_
      refine x_iload_n C dX1_makeSmallerFrom_21 rfl ?_
      refine x_iload_n C dX1_makeSmallerFrom_22 rfl ?_
      refine x_iload_n C dX1_makeSmallerFrom_23 rfl ?_
      refine x_callV C dX1_makeSmallerFrom_24 (ctX1_sortOf ⟨hM, hE, hT, hh⟩ d row col (by omega) (by omega) (by omega)) okX1_sortOf lkX1_36 ⟨⟨hM, rfl, rfl⟩, (by omega)⟩ ⟨by omega, rfl, rfl, Nat.le_of_ble_eq_true rfl⟩ rfl (Or.inl ⟨rfl, rfl⟩) ?_
      refine x_iload_n C dX1_makeSmallerFrom_27 rfl ?_
      refine x_callSN C dX1_makeSmallerFrom_28 (ctX5_sizeAt d (by omega)) okX5_sizeAt nkX1_24 ⟨by omega, rfl, rfl, Nat.le_of_ble_eq_true rfl⟩ rfl (Or.inl ⟨rfl, rfl⟩) ?_
      refine x_callSN C dX1_makeSmallerFrom_31 (ctX5_roomOfUncut _ _ (by have := ht (zno d row col); omega)) okX5_roomOfUncut nkX1_54 ⟨by omega, rfl, rfl, Nat.le_of_ble_eq_true rfl⟩ rfl (Or.inl ⟨rfl, rfl⟩) ?_
      first | exact hfin _ _ hq9 hb9 K C | (rw [← sM_self hm]; exact hfin _ _ hq9 hb9 K C)
    · have hq9 : zshr e (f + 1) t row col = zsf (zfo (zstep (zshr e f) row col (zsz (d + 1))) (t, 1) 4).1 e d row col (zfo (zstep (zshr e f) row col (zsz (d + 1))) (t, 1) 4).2 := by rw [zshr_s, e3, ← ed, if_pos c7.2]
      have hb9 : 0 ≤ (zfo (zstep (zshr e f) row col (zsz (d + 1))) (t, 1) 4).2 ∧ (zfo (zstep (zshr e f) row col (zsz (d + 1))) (t, 1) 4).2 ≤ 1000000 := by omega
      refine x_aload_n C dX1_makeSmallerFrom_10 rfl ?_
      refine x_iload_n C dX1_makeSmallerFrom_11 rfl ?_
      refine x_iload_n C dX1_makeSmallerFrom_12 rfl ?_
      refine x_iload_n C dX1_makeSmallerFrom_13 rfl ?_
      refine x_callV C dX1_makeSmallerFrom_14 hparts okX1_makePartsSmaller lkX1_84 ⟨⟨hM, rfl, rfl⟩, (by omega)⟩ ⟨by omega, rfl, rfl, Nat.le_of_ble_eq_true rfl⟩ rfl (Or.inl ⟨rfl, rfl⟩) ?_
      refine x_goto (tgt := 34) C dX1_makeSmallerFrom_17 (by decide) ?_
      first | exact hfin _ _ hq9 hb9 K C | (rw [← sM_self hm]; exact hfin _ _ hq9 hb9 K C)
section
variable {n : Nat} {σ : zS}
theorem ctX1_makeSmaller {h : Int} {e t : Int → Int} (hm : isM σ n h e t) (he : zBd e) (ht : zSt t) : zCt 11 0 0 yX1_makeSmaller cX1_makeSmaller 1 (some .int) [zr h] n σ (some (zi (zshr e 3 t 0 0).2)) n (sM σ h e (zshr e 3 t 0 0).1) := by
  obtain ⟨hM, hE, hT, hh⟩ := hm
  refine zCt.of (by decide) rfl (Nat.le_of_ble_eq_true rfl) (fun K C => ?_)
  refine x_aload_n C dX1_makeSmaller_0 rfl ?_
  refine x_iconst C dX1_makeSmaller_1 ?_
  refine x_iconst C dX1_makeSmaller_2 ?_
  refine x_iconst C dX1_makeSmaller_3 ?_
  refine x_callV C dX1_makeSmaller_4 (ctX1_makeSmallerFrom he 3 _ _ 0 0 0 ⟨hM, hE, hT, hh⟩ ht (by decide) (by decide) (by decide) (by decide)) okX1_makeSmallerFrom lkX1_81 ⟨⟨hM, rfl, rfl⟩, (by omega)⟩ ⟨by decide, rfl, rfl, Nat.le_of_ble_eq_true rfl⟩ rfl (Or.inl ⟨rfl, rfl⟩) ?_
  exact x_iret (st := []) C dX1_makeSmaller_7 rfl ⟨congrArg (fun z => some (zi z)) (by first | rfl | omega), rfl, rfl, rfl⟩
end
/-- the sum, block by block -/
def zjoE (e2 : Int → Int) (x row col q : Int) (e : Int → Int) : Int → Int := zsq e row col q (fun j => zclp (e j + e2 j * x))
def zjn (e2 t2 : Int → Int) (x : Int) : Nat → (Int → Int) × (Int → Int) → Int → Int → (Int → Int) × (Int → Int)
  | 0 => fun p row col => if t2 (zno 3 row col) = 0 then p else (zjoE e2 x row col (zsz 3) p.1, zu p.2 (zno 3 row col) 1)
  | f + 1 => fun p row col => if t2 (zno (2 - f) row col) = 0 then p else if p.2 (zno (2 - f) row col) = 3 ∧ t2 (zno (2 - f) row col) = 3 then zfo (fun p k => zjn e2 t2 x f p (row + k / 2 * zsz (3 - f)) (col + k % 2 * zsz (3 - f))) p 4 else (zjoE e2 x row col (zsz (2 - f)) p.1, zu p.2 (zno (2 - f) row col) 1)
theorem zjn_s (e2 t2 : Int → Int) (x : Int) (f : Nat) (p : (Int → Int) × (Int → Int)) (row col : Int) : zjn e2 t2 x (f + 1) p row col = if t2 (zno (2 - f) row col) = 0 then p else if p.2 (zno (2 - f) row col) = 3 ∧ t2 (zno (2 - f) row col) = 3 then zfo (fun p k => zjn e2 t2 x f p (row + k / 2 * zsz (3 - f)) (col + k % 2 * zsz (3 - f))) p 4 else (zjoE e2 x row col (zsz (2 - f)) p.1, zu p.2 (zno (2 - f) row col) 1) := rfl
theorem zclp_in (x : Int) : -1000000 ≤ zclp x ∧ zclp x ≤ 1000000 := by unfold zclp; omega
theorem zsq_Bd {e : Int → Int} (he : zBd e) (row col q : Int) {v : Int → Int} (hv : zBd v) : zBd (zsq e row col q v) := by
  intro j
  unfold zsq
  split
  · exact hv j
  · exact he j
def zok (p : (Int → Int) × (Int → Int)) : Prop := zBd p.1 ∧ zSt p.2
theorem zjn_ok (e2 t2 : Int → Int) (x : Int) : ∀ (f : Nat) (p : (Int → Int) × (Int → Int)) (row col : Int), zok p → zok (zjn e2 t2 x f p row col)
  | 0, p, row, col, h => by
    unfold zjn
    split
    · exact h
    · exact ⟨zsq_Bd h.1 _ _ _ (fun j => zclp_in _), zSt.u h.2 _ (by decide)⟩
  | f + 1, p, row, col, h => by
    rw [zjn_s]
    split
    · exact h
    · split
      · exact zfo_inv zok _ p h (fun x k hx => zjn_ok e2 t2 _ f x _ _ hx) 4
      · exact ⟨zsq_Bd h.1 _ _ _ (fun j => zclp_in _), zSt.u h.2 _ (by decide)⟩
theorem ctX1_joinFrom {n : Nat} {h h2 : Int} {e2 t2 : Int → Int} (hd2 : h2 + 2 < h ∨ h + 2 < h2) (he2 : zBd e2) (ht2 : zSt t2) {x : Int} (hx : -99 ≤ x ∧ x ≤ 99) : ∀ (f : Nat) (σ : zS) (p : (Int → Int) × (Int → Int)) (d row col : Int), isM σ n h p.1 p.2 → isM σ n h2 e2 t2 → zok p → d = 3 - f → 0 ≤ d → (0 ≤ row ∧ row + zsz d ≤ 16) → (0 ≤ col ∧ col + zsz d ≤ 16) → zCt (4 + f) 0 0 yX1_joinFrom cX1_joinFrom 7 none [zr h, zr h2, zi x, zi d, zi row, zi col] n σ none n (sM σ h (zjn e2 t2 x f p row col).1 (zjn e2 t2 x f p row col).2) := by
  intro f
  induction f with
  | zero =>
    intro σ p d row col hm hm2 hok hd hd0 hr hc
    obtain rfl : d = 3 := by omega
    have e3 : zsz 3 = 2 := rfl
    obtain ⟨hM, hE, hT, hh⟩ := hm
    have hm : isM σ n h p.1 p.2 := ⟨hM, hE, hT, hh⟩
    obtain ⟨hM2, hE2, hT2, hh2⟩ := hm2
    have hr2 := hr
    have hc2 := hc
    rw [e3] at hr2 hc2
    have hst := ht2 (zno 3 row col)
    refine zCt.of (by decide) rfl (Nat.le_of_ble_eq_true rfl) (fun K C => ?_)
    refine x_aload_n C dX1_joinFrom_0 rfl ?_
    refine x_iload_n C dX1_joinFrom_1 rfl ?_
    refine x_iload C dX1_joinFrom_2 rfl ?_
    refine x_iload C dX1_joinFrom_4 rfl ?_
    refine x_callV C dX1_joinFrom_6 (ctX1_sortOf ⟨hM2, hE2, hT2, hh2⟩ 3 row col (by omega) (by omega) (by omega)) okX1_sortOf lkX1_36 ⟨⟨hM2, rfl, rfl⟩, (by omega)⟩ ⟨by decide, rfl, rfl, Nat.le_of_ble_eq_true rfl⟩ rfl (Or.inl ⟨rfl, rfl⟩) ?_
    refine x_if_ne (tgt := 13) C dX1_joinFrom_9 (by decide) (by omega) (fun c9 => ?_) (fun c9 => ?_)
    · refine x_aload_n C dX1_joinFrom_13 rfl ?_
      refine x_iload_n C dX1_joinFrom_14 rfl ?_
      refine x_iload C dX1_joinFrom_15 rfl ?_
      refine x_iload C dX1_joinFrom_17 rfl ?_
      refine x_callV C dX1_joinFrom_19 (ctX1_isCut ⟨hM, hE, hT, hh⟩ hok.2 3 row col (by omega) (by omega) (by omega)) okX1_isCut lkX1_39 ⟨⟨hM, rfl, rfl⟩, (by omega)⟩ ⟨by decide, rfl, rfl, Nat.le_of_ble_eq_true rfl⟩ rfl (Or.inl ⟨rfl, rfl⟩) ?_
      refine x_ifeq_d (tgt := 37) C dX1_joinFrom_22 (by decide) (fun c22 => ?_) (fun c22 => ?_)
      · refine x_aload_n C dX1_joinFrom_37 rfl ?_
        refine x_aload_n C dX1_joinFrom_38 rfl ?_
        refine x_iload_n C dX1_joinFrom_39 rfl ?_
        refine x_iload_n C dX1_joinFrom_40 rfl ?_
        refine x_iload C dX1_joinFrom_41 rfl ?_
        refine x_iload C dX1_joinFrom_43 rfl ?_
        refine x_callV C dX1_joinFrom_45 (ctX1_joinEntries ⟨hM, hE, hT, hh⟩ ⟨hM2, hE2, hT2, hh2⟩ hd2 hok.1 he2 x 3 row col hx (by omega) hr hc) okX1_joinEntries lkX1_103 ⟨⟨hM, rfl, rfl⟩, (by omega)⟩ ⟨by decide, rfl, rfl, Nat.le_of_ble_eq_true rfl⟩ rfl (Or.inl ⟨rfl, rfl⟩) ?_
        exact x_vret (st := []) C dX1_joinFrom_48 rfl ⟨rfl, rfl, by rw [show zjn e2 t2 x 0 p row col = (zjoE e2 x row col (zsz 3) p.1, zu p.2 (zno 3 row col) 1) from if_neg c9]; rfl, rfl⟩
      · exact absurd c22.1 (by omega)
    · exact x_vret (st := []) C dX1_joinFrom_12 rfl ⟨rfl, rfl, by rw [show zjn e2 t2 x 0 p row col = p from if_pos c9]; exact (sM_self hm).symm, rfl⟩
  | succ f ih =>
    intro σ p d row col hm hm2 hok hd hd0 hr hc
    have ed : d = 2 - f := by omega
    have hz := zsz_v (d := d) (by omega)
    have e3 : (3 - f : Int) = d + 1 := by omega
    have hst := ht2 (zno d row col)
    refine zCt.of (by decide) rfl (Nat.le_of_ble_eq_true rfl) (fun K C => ?_)
    have hokk : ∀ k : Nat, zok (zfo (fun p k => zjn e2 t2 x f p (row + k / 2 * zsz (d + 1)) (col + k % 2 * zsz (d + 1))) p k) := zfo_inv zok _ p hok (fun y k hy => zjn_ok e2 t2 _ f y _ _ hy)
    have loop : d < 3 → t2 (zno d row col) = 3 → p.2 (zno d row col) = 3 → ∀ k : Nat, k ≤ 4 → K 52 [some (zr h), some (zr h2), some (zi x), some (zi d), some (zi row), some (zi col), some (zi (k : Int))] [] n (sM σ h (zfo (fun p k => zjn e2 t2 x f p (row + k / 2 * zsz (d + 1)) (col + k % 2 * zsz (d + 1))) p k).1 (zfo (fun p k => zjn e2 t2 x f p (row + k / 2 * zsz (d + 1)) (col + k % 2 * zsz (d + 1))) p k).2) 0 := by
      intro hd3 hq2 hq
      refine zloop _ 4 (fun k hk ih2 => ?_)
      obtain ⟨hM, hE, hT, hh⟩ := isM_s hm (zfo (fun p k => zjn e2 t2 x f p (row + k / 2 * zsz (d + 1)) (col + k % 2 * zsz (d + 1))) p k).1 (zfo (fun p k => zjn e2 t2 x f p (row + k / 2 * zsz (d + 1)) (col + k % 2 * zsz (d + 1))) p k).2
      obtain ⟨hM2, hE2, hT2, hh2⟩ := isM_o hm2 hd2 (zfo (fun p k => zjn e2 t2 x f p (row + k / 2 * zsz (d + 1)) (col + k % 2 * zsz (d + 1))) p k).1 (zfo (fun p k => zjn e2 t2 x f p (row + k / 2 * zsz (d + 1)) (col + k % 2 * zsz (d + 1))) p k).2
      refine x_iload C dX1_joinFrom_52 rfl ?_
      refine x_iconst C dX1_joinFrom_54 ?_
      refine x_icmp_ge (tgt := 89) C dX1_joinFrom_55 (by decide) (by omega) (fun c55 => ?_) (fun c55 => ?_)
      · exact x_vret (st := []) C dX1_joinFrom_89 rfl ⟨rfl, rfl, by rw [zjn_s, ← ed, e3, if_neg (by omega), if_pos ⟨hq, hq2⟩, show k = 4 by omega], rfl⟩
      · have hp1 := zpart (d := d) (row := row) (p := k) (by omega) (by omega) hr
        have hp2 := zpart (d := d) (row := col) (p := k) (by omega) (by omega) hc
        refine x_aload_n C dX1_joinFrom_58 rfl ?_
        refine x_aload_n C dX1_joinFrom_59 rfl ?_
        refine x_iload_n C dX1_joinFrom_60 rfl ?_
        refine x_iload_n C dX1_joinFrom_61 rfl ?_
        refine x_iconst C dX1_joinFrom_62 ?_
        refine x_iadd C dX1_joinFrom_63 ?_
        refine x_iload_n C dX1_joinFrom_64 rfl ?_
        refine x_iload C dX1_joinFrom_65 rfl ?_
        refine x_iload C dX1_joinFrom_67 rfl ?_
        refine x_callS C dX1_joinFrom_69 (ctX1_rowOfPart d row _ (by omega) (by omega)) okX1_rowOfPart lkX1_57 ⟨by omega, rfl, rfl, Nat.le_of_ble_eq_true rfl⟩ rfl (Or.inl ⟨rfl, rfl⟩) ?_
        refine x_iload_n C dX1_joinFrom_72 rfl ?_
        refine x_iload C dX1_joinFrom_73 rfl ?_
        refine x_iload C dX1_joinFrom_75 rfl ?_
        refine x_callS C dX1_joinFrom_77 (ctX1_columnOfPart d col _ (by omega) (by omega)) okX1_columnOfPart lkX1_60 ⟨by omega, rfl, rfl, Nat.le_of_ble_eq_true rfl⟩ rfl (Or.inl ⟨rfl, rfl⟩) ?_
        refine x_callV C dX1_joinFrom_80 (ih _ (zfo (fun p k => zjn e2 t2 x f p (row + k / 2 * zsz (d + 1)) (col + k % 2 * zsz (d + 1))) p k) (d + 1) _ _ ⟨hM, hE, hT, hh⟩ ⟨hM2, hE2, hT2, hh2⟩ (hokk k) (by omega) (by omega) hp1.1 hp2.2) okX1_joinFrom lkX1_99 ⟨⟨hM, rfl, rfl⟩, (by omega)⟩ ⟨by omega, rfl, rfl, Nat.le_of_ble_eq_true rfl⟩ rfl (Or.inl ⟨rfl, rfl⟩) ?_
        rw [sM_sM]
        refine x_iinc C dX1_joinFrom_83 rfl (by decide) ?_
        refine x_goto (tgt := 52) C dX1_joinFrom_86 (by decide) ?_
        exact ih2 (by omega)
    obtain ⟨hM, hE, hT, hh⟩ := hm
    have hm : isM σ n h p.1 p.2 := ⟨hM, hE, hT, hh⟩
    obtain ⟨hM2, hE2, hT2, hh2⟩ := hm2
    refine x_aload_n C dX1_joinFrom_0 rfl ?_
    refine x_iload_n C dX1_joinFrom_1 rfl ?_
    refine x_iload C dX1_joinFrom_2 rfl ?_
    refine x_iload C dX1_joinFrom_4 rfl ?_
    refine x_callV C dX1_joinFrom_6 (ctX1_sortOf ⟨hM2, hE2, hT2, hh2⟩ d row col (by omega) (by omega) (by omega)) okX1_sortOf lkX1_36 ⟨⟨hM2, rfl, rfl⟩, (by omega)⟩ ⟨by omega, rfl, rfl, Nat.le_of_ble_eq_true rfl⟩ rfl (Or.inl ⟨rfl, rfl⟩) ?_
    refine x_if_ne (tgt := 13) C dX1_joinFrom_9 (by decide) (by omega) (fun c9 => ?_) (fun c9 => ?_)
    · refine x_aload_n C dX1_joinFrom_13 rfl ?_
      refine x_iload_n C dX1_joinFrom_14 rfl ?_
      refine x_iload C dX1_joinFrom_15 rfl ?_
      refine x_iload C dX1_joinFrom_17 rfl ?_
      refine x_callV C dX1_joinFrom_19 (ctX1_isCut ⟨hM, hE, hT, hh⟩ hok.2 d row col (by omega) (by omega) (by omega)) okX1_isCut lkX1_39 ⟨⟨hM, rfl, rfl⟩, (by omega)⟩ ⟨by omega, rfl, rfl, Nat.le_of_ble_eq_true rfl⟩ rfl (Or.inl ⟨rfl, rfl⟩) ?_
      refine x_ifeq_d (tgt := 37) C dX1_joinFrom_22 (by decide) (fun c22 => ?_) (fun c22 => ?_)
      · refine x_aload_n C dX1_joinFrom_37 rfl ?_
        refine x_aload_n C dX1_joinFrom_38 rfl ?_
        refine x_iload_n C dX1_joinFrom_39 rfl ?_
        refine x_iload_n C dX1_joinFrom_40 rfl ?_
        refine x_iload C dX1_joinFrom_41 rfl ?_
        refine x_iload C dX1_joinFrom_43 rfl ?_
        refine x_callV C dX1_joinFrom_45 (ctX1_joinEntries ⟨hM, hE, hT, hh⟩ ⟨hM2, hE2, hT2, hh2⟩ hd2 hok.1 he2 x d row col hx (by omega) hr hc) okX1_joinEntries lkX1_103 ⟨⟨hM, rfl, rfl⟩, (by omega)⟩ ⟨by omega, rfl, rfl, Nat.le_of_ble_eq_true rfl⟩ rfl (Or.inl ⟨rfl, rfl⟩) ?_
        exact x_vret (st := []) C dX1_joinFrom_48 rfl ⟨rfl, rfl, by rw [zjn_s, ← ed, if_neg c9, if_neg (by first | exact fun q => c22 ⟨by omega, q.1⟩ | exact fun q => c34 ⟨by omega, q.2⟩)]; rfl, rfl⟩
      · refine x_aload_n C dX1_joinFrom_25 rfl ?_
        refine x_iload_n C dX1_joinFrom_26 rfl ?_
        refine x_iload C dX1_joinFrom_27 rfl ?_
        refine x_iload C dX1_joinFrom_29 rfl ?_
        refine x_callV C dX1_joinFrom_31 (ctX1_isCut ⟨hM2, hE2, hT2, hh2⟩ ht2 d row col (by omega) (by omega) (by omega)) okX1_isCut lkX1_39 ⟨⟨hM2, rfl, rfl⟩, (by omega)⟩ ⟨by omega, rfl, rfl, Nat.le_of_ble_eq_true rfl⟩ rfl (Or.inl ⟨rfl, rfl⟩) ?_
        refine x_ifne_d (tgt := 49) C dX1_joinFrom_34 (by decide) (fun c34 => ?_) (fun c34 => ?_)
        · refine x_iconst C dX1_joinFrom_49 ?_
          refine x_istore C dX1_joinFrom_50 (by decide) ?_
          have l0 := loop c34.1 c34.2 c22.2 0 (by omega)
          rw [show zfo (fun p k => zjn e2 t2 x f p (row + k / 2 * zsz (d + 1)) (col + k % 2 * zsz (d + 1))) p 0 = p from rfl, sM_self hm] at l0
          exact l0
        · refine x_aload_n C dX1_joinFrom_37 rfl ?_
          refine x_aload_n C dX1_joinFrom_38 rfl ?_
          refine x_iload_n C dX1_joinFrom_39 rfl ?_
          refine x_iload_n C dX1_joinFrom_40 rfl ?_
          refine x_iload C dX1_joinFrom_41 rfl ?_
          refine x_iload C dX1_joinFrom_43 rfl ?_
          refine x_callV C dX1_joinFrom_45 (ctX1_joinEntries ⟨hM, hE, hT, hh⟩ ⟨hM2, hE2, hT2, hh2⟩ hd2 hok.1 he2 x d row col hx (by omega) hr hc) okX1_joinEntries lkX1_103 ⟨⟨hM, rfl, rfl⟩, (by omega)⟩ ⟨by omega, rfl, rfl, Nat.le_of_ble_eq_true rfl⟩ rfl (Or.inl ⟨rfl, rfl⟩) ?_
          exact x_vret (st := []) C dX1_joinFrom_48 rfl ⟨rfl, rfl, by rw [zjn_s, ← ed, if_neg c9, if_neg (by first | exact fun q => c22 ⟨by omega, q.1⟩ | exact fun q => c34 ⟨by omega, q.2⟩)]; rfl, rfl⟩
    · exact x_vret (st := []) C dX1_joinFrom_12 rfl ⟨rfl, rfl, by rw [zjn_s, ← ed, if_pos c9]; exact (sM_self hm).symm, rfl⟩
section
variable {n : Nat} {σ : zS}
theorem ctX1_join {h h2 : Int} {e t e2 t2 : Int → Int} (hm : isM σ n h e t) (hm2 : isM σ n h2 e2 t2) (hd2 : h2 + 2 < h ∨ h + 2 < h2) (he : zBd e) (ht : zSt t) (he2 : zBd e2) (ht2 : zSt t2) {x : Int} (hx : -99 ≤ x ∧ x ≤ 99) : zCt 8 0 0 yX1_join cX1_join 3 none [zr h, zr h2, zi x] n σ none n (sM σ h (zjn e2 t2 x 3 (e, t) 0 0).1 (zjn e2 t2 x 3 (e, t) 0 0).2) := by
  obtain ⟨hM, hE, hT, hh⟩ := hm
  have hm : isM σ n h e t := ⟨hM, hE, hT, hh⟩
  obtain ⟨hM2, hE2, hT2, hh2⟩ := hm2
  have hm2 : isM σ n h2 e2 t2 := ⟨hM2, hE2, hT2, hh2⟩
  refine zCt.of (by decide) rfl (Nat.le_of_ble_eq_true rfl) (fun K C => ?_)
  refine x_aload_n C dX1_join_0 rfl ?_
  refine x_aload_n C dX1_join_1 rfl ?_
  refine x_iload_n C dX1_join_2 rfl ?_
  refine x_iconst C dX1_join_3 ?_
  refine x_iconst C dX1_join_4 ?_
  refine x_iconst C dX1_join_5 ?_
  refine x_callV C dX1_join_6 (ctX1_joinFrom hd2 he2 ht2 hx 3 σ (e, t) 0 0 0 hm hm2 ⟨he, ht⟩ (by decide) (by decide) (by decide) (by decide)) okX1_joinFrom lkX1_99 ⟨⟨hM, rfl, rfl⟩, (by omega)⟩ ⟨by decide, rfl, rfl, Nat.le_of_ble_eq_true rfl⟩ rfl (Or.inl ⟨rfl, rfl⟩) ?_
  exact x_vret (st := []) C dX1_join_9 rfl ⟨rfl, rfl, rfl, rfl⟩
end
