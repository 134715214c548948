section
variable {σ : zS}
theorem ctX5_init (hB : σ 1 = zO 5 [zn, zn, zn, zn, zn, zn]) : zCt 4 143 13678 yX5_init cX5_init 2 none [zr 1] 1 σ none 144 (zxF σ) := by
  refine zCt.of (by decide) rfl (Nat.le_of_ble_eq_true rfl) (fun K C => ?_)
  have loop : ∀ k : Nat, k ≤ 2 → K 67 [some (zr 1), some (zi (k : Int))] [] (114 + 15 * k) (zxL σ k) (10918 + 1380 * k) := by
    refine zloop _ 2 (fun k hk ih => ?_)
    obtain ⟨hB, hA, hg, hm⟩ := zxL_is σ k hk
    have eL : zxL σ (k + 1) = zsu (zlN (zxL σ k) (114 + 15 * k)) 102 (zQ 5 2 (zqf 115 15 (k + 1))) := rfl
    have eF : k = 2 → zxF σ = zsu (zxL σ k) 102 (zQ 5 2 (fun m => some (115 + 15 * m))) := fun e => by rw [e]; rfl
    generalize zxL σ k = τ at *
    refine x_iload_n C dX5_init_67 rfl ?_
    refine x_iconst C dX5_init_68 ?_
    refine x_icmp_ge (tgt := 91) C dX5_init_69 (by decide) (by omega) (fun c69 => ?_) (fun c69 => ?_)
    · obtain rfl : k = 2 := by omega
      refine x_simq C (fun m => some (115 + 15 * m)) hA (fun j h1 h2 => if_pos ⟨h1, h2⟩) ?_
      exact x_vret (st := []) C dX5_init_91 rfl ⟨rfl, rfl, (eF rfl).symm, rfl⟩
    · refine x_aload_n C dX5_init_72 rfl ?_
      refine x_getfield C dX5_init_73 lfX5_25 hB (by omega) rfl ?_
      refine x_iload_n C dX5_init_76 rfl ?_
      refine x_new (ci := 3) C dX5_init_77 rfl ⟨klX5_23, kiX3.1, kiX3.2, inX3⟩ tyX3 tyX3_ok (fs := [zn, zi 0]) (fun g j hj => match j, hj with | 0, _ => rfl | 1, _ => rfl | _ + 2, h => absurd h (by omega)) (by omega) ?_
      refine x_nm (fun s77 e77 => ?_)
      have hA0 := hA
      have hB0 := hB
      obtain ⟨q, hq⟩ : ∃ q : Nat, q = 114 + 15 * k + 1 := ⟨_, rfl⟩
      rw [show ((114 + 15 * k : Nat) : Int) + 1 = (q : Int) by omega] at e77 ⊢
      rw [← hq]
      have hQ := (congrFun e77 (q : Int)).trans (zsu_s _ _ _)
      refine x_dup C dX5_init_80 rfl ?_
      refine x_callIN C dX5_init_81 (ctX3_init (n := q) hQ (by omega)) okX3_init nkX5_47 ⟨by decide, rfl, rfl, Nat.le_of_ble_eq_true rfl⟩ rfl (Or.inr (by omega)) ?_
      refine x_nm (fun s81 e81 => ?_)
      have e81b : s81 = zlN τ (114 + 15 * (k : Int)) := by
        rw [e81, e77, show (q : Int) = 114 + 15 * (k : Int) + 1 by omega]
        rfl
      obtain ⟨⟨hM, hM2⟩, hgm⟩ := zlN_is τ (n := 114 + 15 * (k : Int)) (by omega) (N := 155) (by omega)
      rw [← e81b] at hM hgm
      have hQ : s81 (q : Int) = zO 3 [zr (114 + 15 * (k : Int) + 2), zi 0] := by rw [show (q : Int) = 114 + 15 * (k : Int) + 1 by omega]; exact hM
      have hA := (hgm 102 (by omega)).trans hA0
      have hB := (hgm 1 (by omega)).trans hB0
      refine x_aastore5 C dX5_init_84 hA hQ (by omega) ?_
      refine x_nm (fun s84 e84 => ?_)
      have hB := (congrFun e84 1).trans ((zsu_n _ _ (by omega)).trans hB)
      have hA := (congrFun e84 102).trans (zsu_s _ _ _)
      have hQ := (congrFun e84 (q:Int)).trans ((zsu_n _ _ (by omega)).trans hQ)
      have ih := ih (by omega)
      rw [show ((k + 1 : Nat) : Int) = (k : Int) + 1 by omega] at ih
      rw [show s84 = zxL σ (k + 1) by rw [e84, zqf_s _ _ (by omega) (by omega), e81b, eL]]
      refine x_iinc C dX5_init_85 rfl (by decide) ?_
      refine x_goto (tgt := 67) C dX5_init_88 (by decide) ?_
      rw [show q + 14 = 114 + 15 * (k + 1) by omega, show 10918 + 1380 * k + 2 + 1378 = 10918 + 1380 * (k + 1) by omega]
      exact ih
  refine x_aload_n C dX5_init_0 rfl ?_
  refine x_objInit C dX5_init_1 loX5_3 (by decide) (Nat.le_of_ble_eq_true rfl) ?_
  refine x_aload_n C dX5_init_4 rfl ?_
  refine x_new (ci := 4) C dX5_init_5 rfl ⟨klX5_9, kiX4.1, kiX4.2, inX4⟩ tyX4 tyX4_ok (fs := [zn, zi 0]) (fun g j hj => match j, hj with | 0, _ => rfl | 1, _ => rfl | _ + 2, h => absurd h (by omega)) (by omega) ?_
  refine x_nm (fun s5 e5 => ?_)
  rw [show ((1 : Nat) : Int) + 1 = ((2 : Nat) : Int) from rfl] at e5 ⊢
  have hQ := (congrFun e5 ((2 : Nat) : Int)).trans (zsu_s _ _ _)
  refine x_dup C dX5_init_8 rfl ?_
  refine x_callI C dX5_init_9 (ctX4_init (n := 2) hQ (by decide)) okX4_init lkX5_11 ⟨by decide, rfl, rfl, Nat.le_of_ble_eq_true rfl⟩ rfl (Or.inr (by omega)) ?_
  refine x_nm (fun s9 e9 => ?_)
  have e9b : s9 = zsG σ 1 := by rw [e9, e5]; rfl
  have hB := (congrFun e9b 1).trans (((zsG_is σ (n := 1) (by decide) (N := 155) (by decide)).2 1 (by decide)).trans hB)
  refine x_putFO C dX5_init_12 lfX5_12 lyX5_0 rfl (fun _ _ _ q => by cases q; rfl) hB (by omega) (Nat.le_of_ble_eq_true rfl) ?_
  refine x_nm (fun s12 e12 => ?_)
  have hB := (congrFun e12 1).trans (zsu_s _ _ _)
  refine x_aload_n C dX5_init_15 rfl ?_
  refine x_new (ci := 0) C dX5_init_16 rfl ⟨klX5_16, kiX0.1, kiX0.2, inX0⟩ tyX0 tyX0_ok (fs := [zn, zi 0, zi 0]) (fun g j hj => match j, hj with | 0, _ => rfl | 1, _ => rfl | 2, _ => rfl | _ + 3, h => absurd h (by omega)) (by omega) ?_
  refine x_nm (fun s16 e16 => ?_)
  rw [show ((1 + 1 + 13 : Nat) : Int) + 1 = ((16 : Nat) : Int) from rfl] at e16 ⊢
  have hQ := (congrFun e16 ((16 : Nat) : Int)).trans (zsu_s _ _ _)
  refine x_dup C dX5_init_19 rfl ?_
  refine x_callI C dX5_init_20 (ctX0_init (n := 16) hQ (by decide)) okX0_init lkX5_18 ⟨by decide, rfl, rfl, Nat.le_of_ble_eq_true rfl⟩ rfl (Or.inr (by omega)) ?_
  refine x_nm (fun s20 e20 => ?_)
  have e20b : s20 = zhN s12 15 := by rw [e20, e16]; rfl
  have hB := (congrFun e20b 1).trans (((zhN_is s12 (n := 15) (by decide) (N := 155) (by decide)).2 1 (by decide)).trans hB)
  refine x_putFO C dX5_init_23 lfX5_19 lyX5_1 rfl (fun _ _ _ q => by cases q; rfl) hB (by omega) (Nat.le_of_ble_eq_true rfl) ?_
  refine x_nm (fun s23 e23 => ?_)
  have hB := (congrFun e23 1).trans (zsu_s _ _ _)
  refine x_aload_n C dX5_init_26 rfl ?_
  refine x_iconst C dX5_init_27 ?_
  refine x_newq5 (L := 2) C dX5_init_28 klX5_23 (by decide) (by omega) ?_
  refine x_nm (fun s28 e28 => ?_)
  rw [show ((1 + 1 + 13 + 1 + 85 : Nat) : Int) + 1 = 102 from rfl] at e28 ⊢
  have hB := (congrFun e28 1).trans ((zsu_n _ _ (by decide)).trans hB)
  refine x_putFA C dX5_init_31 lfX5_25 lyX5_2 rfl (fun _ _ _ q => by cases q; rfl) hB (by omega) (Nat.le_of_ble_eq_true rfl) ?_
  refine x_nm (fun s31 e31 => ?_)
  have hB := (congrFun e31 1).trans (zsu_s _ _ _)
  refine x_aload_n C dX5_init_34 rfl ?_
  refine x_new (ci := 2) C dX5_init_35 rfl ⟨klX5_29, kiX2.1, kiX2.2, inX2⟩ tyX2 tyX2_ok (fs := [zn, zi 0, zn, zn, zn, zn, zi 0, zi 0]) (fun g j hj => match j, hj with | 0, _ => rfl | 1, _ => rfl | 2, _ => rfl | 3, _ => rfl | 4, _ => rfl | 5, _ => rfl | 6, _ => rfl | 7, _ => rfl | _ + 8, h => absurd h (by omega)) (by omega) ?_
  refine x_nm (fun s35 e35 => ?_)
  rw [show ((1 + 1 + 13 + 1 + 85 + 1 : Nat) : Int) + 1 = ((103 : Nat) : Int) from rfl] at e35 ⊢
  have hQ := (congrFun e35 ((103 : Nat) : Int)).trans (zsu_s _ _ _)
  refine x_dup C dX5_init_38 rfl ?_
  refine x_callIN C dX5_init_39 (ctX2_init (n := 103) hQ (by decide)) okX2_init nkX5_31 ⟨by decide, rfl, rfl, Nat.le_of_ble_eq_true rfl⟩ rfl (Or.inr (by omega)) ?_
  refine x_nm (fun s39 e39 => ?_)
  have e39b : s39 = zpN s31 102 := by rw [e39, e35]; rfl
  have hB := (congrFun e39b 1).trans (((zpN_is s31 (n := 102) (by decide) (N := 155) (by decide)).2 1 (by decide)).trans hB)
  refine x_putFO C dX5_init_42 lfX5_32 lyX5_3 rfl (fun _ _ _ q => by cases q; rfl) hB (by omega) (Nat.le_of_ble_eq_true rfl) ?_
  refine x_nm (fun s42 e42 => ?_)
  have hB := (congrFun e42 1).trans (zsu_s _ _ _)
  refine x_aload_n C dX5_init_45 rfl ?_
  refine x_new (ci := 1) C dX5_init_46 rfl ⟨klX5_36, kiX1.1, kiX1.2, inX1⟩ tyX1 tyX1_ok (fs := [zn, zn]) (fun g j hj => match j, hj with | 0, _ => rfl | 1, _ => rfl | _ + 2, h => absurd h (by omega)) (by omega) ?_
  refine x_nm (fun s46 e46 => ?_)
  rw [show ((1 + 1 + 13 + 1 + 85 + 1 + 1 + 7 : Nat) : Int) + 1 = 111 from rfl] at e46 ⊢
  have hQ := (congrFun e46 111).trans (zsu_s _ _ _)
  refine x_dup C dX5_init_49 rfl ?_
  refine x_callIN C dX5_init_50 (ctX1_init (n := 111) hQ (by decide)) okX1_init nkX5_38 ⟨by decide, rfl, rfl, Nat.le_of_ble_eq_true rfl⟩ rfl (Or.inr (by omega)) ?_
  refine x_nm (fun s50 e50 => ?_)
  have e50b : s50 = zmN s42 110 := by rw [e50, e46]; rfl
  have hB := (congrFun e50b 1).trans ((zmN_ag s42 110 1 (by decide)).trans hB)
  refine x_putFO C dX5_init_53 lfX5_39 lyX5_4 rfl (fun _ _ _ q => by cases q; rfl) hB (by omega) (Nat.le_of_ble_eq_true rfl) ?_
  refine x_nm (fun s53 e53 => ?_)
  have hB := (congrFun e53 1).trans (zsu_s _ _ _)
  refine x_aload_n C dX5_init_56 rfl ?_
  refine x_sipush C dX5_init_57 (by decide) ?_
  refine x_newa (t := 0) (L := 199) C dX5_init_60 rfl rfl (fun _ => rfl) (fun _ _ q => q) ka_int (by decide) (by omega) ?_
  refine x_nm (fun s60 e60 => ?_)
  rw [show ((1 + 1 + 13 + 1 + 85 + 1 + 1 + 7 + 1 + 2 : Nat) : Int) + 1 = 114 from rfl] at e60 ⊢
  have hB := (congrFun e60 1).trans ((zsu_n _ _ (by decide)).trans hB)
  refine x_putFA C dX5_init_62 lfX5_43 lyX5_5 rfl (fun _ _ _ q => by cases q; rfl) hB (by omega) (Nat.le_of_ble_eq_true rfl) ?_
  refine x_nm (fun s62 e62 => ?_)
  have hB := (congrFun e62 1).trans (zsu_s _ _ _)
  refine x_iconst C dX5_init_65 ?_
  refine x_istore_n C dX5_init_66 (by decide) ?_
  have l0 := loop 0 (by omega)
  rw [show zxL σ 0 = s62 by
    rw [e62, e60, e53, e50b, e42, e39b, e31, e28, e23, e20b, e12, e9b, ← zqf_0 115 15]
    rfl] at l0
  exact l0
end
