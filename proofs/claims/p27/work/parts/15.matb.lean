section
variable {n : Nat} {σ : zS}
theorem ctX1_greatest {h : Int} {e t : Int → Int} (hm : isM σ n h e t) (he : ∀ j, -1000000 ≤ e j ∧ e j ≤ 1000000) : zCt 2 0 0 yX1_greatest cX1_greatest 3 (some .int) [zr h] n σ (some (zi (zfo (fun m k => max m (e (1 + k))) (e 0) 255))) n σ := by
  obtain ⟨hM, hE, hT, hh⟩ := hm
  have hfo : ∀ k, -1000000 ≤ zfo (fun m k => max m (e (1 + k))) (e 0) k ∧ zfo (fun m k => max m (e (1 + k))) (e 0) k ≤ 1000000 := by
    intro k
    induction k with
    | zero => exact he 0
    | succ k ih =>
      have h1 := he (1 + k)
      show -1000000 ≤ max (zfo (fun m k => max m (e (1 + k))) (e 0) k) (e (1 + k)) ∧ max (zfo (fun m k => max m (e (1 + k))) (e 0) k) (e (1 + k)) ≤ 1000000
      omega
  refine zCt.of (by decide) rfl (Nat.le_of_ble_eq_true rfl) (fun K C => ?_)
  have loop : ∀ k : Nat, k ≤ 255 → K 9 [some (zr h), some (zi (zfo (fun m k => max m (e (1 + k))) (e 0) k)), some (zi (1 + (k : Int)))] [] n σ 0 := by
    refine zloop _ 255 (fun k hk ih => ?_)
    refine x_iload_n C dX1_greatest_9 rfl ?_
    refine x_sipush C dX1_greatest_10 (by decide) ?_
    refine x_icmp_ge (tgt := 33) C dX1_greatest_13 (by decide) (by omega) (fun c13 => ?_) (fun c13 => ?_)
    · refine x_iload_n C dX1_greatest_33 rfl ?_
      exact x_iret (st := []) C dX1_greatest_34 rfl ⟨congrArg (fun z => some (zi z)) (by rw [show k = 255 by omega]), rfl, rfl, rfl⟩
    · refine x_iload_n C dX1_greatest_16 rfl ?_
      refine x_aload_n C dX1_greatest_17 rfl ?_
      refine x_getfield C dX1_greatest_18 lfX1_9 hM (by omega) rfl ?_
      refine x_iload_n C dX1_greatest_21 rfl ?_
      refine x_iaload C dX1_greatest_22 hE (by omega) ?_
      refine x_mmax C dX1_greatest_23 lmX1_46 (by decide) (Nat.le_of_ble_eq_true rfl) ⟨⟨by have := hfo k; omega, by have := hfo k; omega⟩, by have := he (1 + k); omega, by have := he (1 + k); omega⟩ ?_
      refine x_istore_n C dX1_greatest_26 (by decide) ?_
      refine x_iinc C dX1_greatest_27 rfl (by decide) ?_
      refine x_goto (tgt := 9) C dX1_greatest_30 (by decide) ?_
      rw [Int.add_assoc]
      exact ih (by omega)
  refine x_aload_n C dX1_greatest_0 rfl ?_
  refine x_getfield C dX1_greatest_1 lfX1_9 hM (by omega) rfl ?_
  refine x_iconst C dX1_greatest_4 ?_
  refine x_iaload C dX1_greatest_5 hE (by omega) ?_
  refine x_istore_n C dX1_greatest_6 (by decide) ?_
  refine x_iconst C dX1_greatest_7 ?_
  refine x_istore_n C dX1_greatest_8 (by decide) ?_
  exact loop 0 (by omega)
theorem ctX1_least {h : Int} {e t : Int → Int} (hm : isM σ n h e t) (he : ∀ j, -1000000 ≤ e j ∧ e j ≤ 1000000) : zCt 2 0 0 yX1_least cX1_least 3 (some .int) [zr h] n σ (some (zi (zfo (fun m k => min m (e (1 + k))) (e 0) 255))) n σ := by
  obtain ⟨hM, hE, hT, hh⟩ := hm
  have hfo : ∀ k, -1000000 ≤ zfo (fun m k => min m (e (1 + k))) (e 0) k ∧ zfo (fun m k => min m (e (1 + k))) (e 0) k ≤ 1000000 := by
    intro k
    induction k with
    | zero => exact he 0
    | succ k ih =>
      have h1 := he (1 + k)
      show -1000000 ≤ min (zfo (fun m k => min m (e (1 + k))) (e 0) k) (e (1 + k)) ∧ min (zfo (fun m k => min m (e (1 + k))) (e 0) k) (e (1 + k)) ≤ 1000000
      omega
  refine zCt.of (by decide) rfl (Nat.le_of_ble_eq_true rfl) (fun K C => ?_)
  have loop : ∀ k : Nat, k ≤ 255 → K 9 [some (zr h), some (zi (zfo (fun m k => min m (e (1 + k))) (e 0) k)), some (zi (1 + (k : Int)))] [] n σ 0 := by
    refine zloop _ 255 (fun k hk ih => ?_)
    refine x_iload_n C dX1_least_9 rfl ?_
    refine x_sipush C dX1_least_10 (by decide) ?_
    refine x_icmp_ge (tgt := 33) C dX1_least_13 (by decide) (by omega) (fun c13 => ?_) (fun c13 => ?_)
    · refine x_iload_n C dX1_least_33 rfl ?_
      exact x_iret (st := []) C dX1_least_34 rfl ⟨congrArg (fun z => some (zi z)) (by rw [show k = 255 by omega]), rfl, rfl, rfl⟩
    · refine x_iload_n C dX1_least_16 rfl ?_
      refine x_aload_n C dX1_least_17 rfl ?_
      refine x_getfield C dX1_least_18 lfX1_9 hM (by omega) rfl ?_
      refine x_iload_n C dX1_least_21 rfl ?_
      refine x_iaload C dX1_least_22 hE (by omega) ?_
      refine x_mmin C dX1_least_23 lmX1_108 (by decide) (Nat.le_of_ble_eq_true rfl) ⟨⟨by have := hfo k; omega, by have := hfo k; omega⟩, by have := he (1 + k); omega, by have := he (1 + k); omega⟩ ?_
      refine x_istore_n C dX1_least_26 (by decide) ?_
      refine x_iinc C dX1_least_27 rfl (by decide) ?_
      refine x_goto (tgt := 9) C dX1_least_30 (by decide) ?_
      rw [Int.add_assoc]
      exact ih (by omega)
  refine x_aload_n C dX1_least_0 rfl ?_
  refine x_getfield C dX1_least_1 lfX1_9 hM (by omega) rfl ?_
  refine x_iconst C dX1_least_4 ?_
  refine x_iaload C dX1_least_5 hE (by omega) ?_
  refine x_istore_n C dX1_least_6 (by decide) ?_
  refine x_iconst C dX1_least_7 ?_
  refine x_istore_n C dX1_least_8 (by decide) ?_
  exact loop 0 (by omega)
theorem ctX1_isItsTurned {h : Int} {e t : Int → Int} (hm : isM σ n h e t) (he : ∀ j, -1000000 ≤ e j ∧ e j ≤ 1000000) {b : Bool} (hb : b = true ↔ ∀ i j : Nat, j < i → i < 16 → e ((i : Int) * 16 + j) = e ((j : Int) * 16 + i)) : zCt 3 0 0 yX1_isItsTurned cX1_isItsTurned 3 (some .boolean) [zr h] n σ (some (zi (zb b))) n σ := by
  obtain ⟨hM, hE, hT, hh⟩ := hm
  refine zCt.of (by decide) rfl (Nat.le_of_ble_eq_true rfl) (fun K C => ?_)
  have loop : ∀ i : Nat, i ≤ 16 → (∀ i2 j : Nat, j < i2 → i2 < i → e ((i2 : Int) * 16 + j) = e ((j : Int) * 16 + i2)) → K 2 [some (zr h), some (zi (i : Int)), none] [] n σ 0 := by
    refine zloop _ 16 (fun i hi ih hall => ?_)
    have loop2 : i < 16 → ∀ j : Nat, j ≤ i → (∀ j2 : Nat, j2 < j → e ((i : Int) * 16 + j2) = e ((j2 : Int) * 16 + i)) → K 10 [some (zr h), some (zi (i : Int)), some (zi (j : Int))] [] n σ 0 := by
      intro hi2
      refine zloop _ i (fun j hj ih2 hall2 => ?_)
      refine x_iload_n C dX1_isItsTurned_10 rfl ?_
      refine x_iload_n C dX1_isItsTurned_11 rfl ?_
      refine x_icmp_ge (tgt := 38) C dX1_isItsTurned_12 (by decide) (by omega) (fun c12 => ?_) (fun c12 => ?_)
      · refine x_iinc C dX1_isItsTurned_38 rfl (by decide) ?_
        refine x_goto (tgt := 2) C dX1_isItsTurned_41 (by decide) ?_
        refine x_weak C (Lo' := [some (zr h), some (zi ((i + 1 : Nat) : Int)), none]) (fun q u hq => by match q, hq with | 0, hq => exact hq | 1, hq => exact hq | q + 3, hq => exact absurd hq (by simp [zg])) ?_
        exact ih (by omega) (fun i2 j2 h1 h2 => by
          rcases Nat.lt_or_ge i2 i with q | q
          · exact hall i2 j2 h1 q
          · have e1 : i2 = i := by omega
            subst e1
            exact hall2 j2 (by omega))
      · refine x_aload_n C dX1_isItsTurned_15 rfl ?_
        refine x_iload_n C dX1_isItsTurned_16 rfl ?_
        refine x_iload_n C dX1_isItsTurned_17 rfl ?_
        refine x_callV C dX1_isItsTurned_18 (ctX1_entryAt ⟨hM, hE, hT, hh⟩ _ _ (by omega) (by omega)) okX1_entryAt lkX1_96 ⟨⟨hM, rfl, rfl⟩, (by omega)⟩ ⟨by decide, rfl, rfl, Nat.le_of_ble_eq_true rfl⟩ rfl (Or.inl ⟨rfl, rfl⟩) ?_
        refine x_aload_n C dX1_isItsTurned_21 rfl ?_
        refine x_iload_n C dX1_isItsTurned_22 rfl ?_
        refine x_iload_n C dX1_isItsTurned_23 rfl ?_
        refine x_callV C dX1_isItsTurned_24 (ctX1_entryAt ⟨hM, hE, hT, hh⟩ _ _ (by omega) (by omega)) okX1_entryAt lkX1_96 ⟨⟨hM, rfl, rfl⟩, (by omega)⟩ ⟨by decide, rfl, rfl, Nat.le_of_ble_eq_true rfl⟩ rfl (Or.inl ⟨rfl, rfl⟩) ?_
        refine x_icmp_eq (tgt := 32) C dX1_isItsTurned_27 (by decide) (by have := he (i * 16 + j); have := he (j * 16 + i); omega) (fun c27 => ?_) (fun c27 => ?_)
        · refine x_iinc C dX1_isItsTurned_32 rfl (by decide) ?_
          refine x_goto (tgt := 10) C dX1_isItsTurned_35 (by decide) ?_
          exact ih2 (by omega) (fun j2 hj2 => by
            rcases Nat.lt_or_ge j2 j with q | q
            · exact hall2 j2 q
            · rw [show j2 = j by omega]; exact c27)
        · refine x_iconst C dX1_isItsTurned_30 ?_
          exact x_zret (st := []) (b := false) C dX1_isItsTurned_31 rfl ⟨congrArg (fun z => some (zi (zb z))) (Bool.eq_false_iff.mpr (fun q => c27 (hb.mp q i j (by omega) (by omega)))).symm, rfl, rfl, rfl⟩
    refine x_iload_n C dX1_isItsTurned_2 rfl ?_
    refine x_bipush C dX1_isItsTurned_3 (by decide) ?_
    refine x_icmp_ge (tgt := 44) C dX1_isItsTurned_5 (by decide) (by omega) (fun c5 => ?_) (fun c5 => ?_)
    · refine x_iconst C dX1_isItsTurned_44 ?_
      exact x_zret (st := []) (b := true) C dX1_isItsTurned_45 rfl ⟨congrArg (fun z => some (zi (zb z))) (hb.mpr (fun a b h1 h2 => hall a b h1 (by omega))).symm, rfl, rfl, rfl⟩
    · refine x_iconst C dX1_isItsTurned_8 ?_
      refine x_istore_n C dX1_isItsTurned_9 (by decide) ?_
      exact loop2 (by omega) 0 (by omega) (fun j2 hj2 => absurd hj2 (by omega))
  refine x_iconst C dX1_isItsTurned_0 ?_
  refine x_istore_n C dX1_isItsTurned_1 (by decide) ?_
  exact loop 0 (by omega) (fun i2 j h1 h2 => absurd h2 (by omega))
theorem ctX1_become {h h2 : Int} {e t e2 t2 : Int → Int} (hm : isM σ n h e t) (hm2 : isM σ n h2 e2 t2) (hd : h2 + 2 < h ∨ h + 2 < h2) : zCt 1 0 0 yX1_become cX1_become 2 none [zr h, zr h2] n σ none n (zsu (zsu σ (h + 1) (zA 256 e2)) (h + 2) (zA 85 t2)) := by
  obtain ⟨hM, hE, hT, hh⟩ := hm
  obtain ⟨hM2, hE2, hT2, hh2⟩ := hm2
  refine zCt.of (by decide) rfl (Nat.le_of_ble_eq_true rfl) (fun K C => ?_)
  refine x_aload_n C dX1_become_0 rfl ?_
  refine x_getfield C dX1_become_1 lfX1_9 hM2 (by omega) rfl ?_
  refine x_iconst C dX1_become_4 ?_
  refine x_aload_n C dX1_become_5 rfl ?_
  refine x_getfield C dX1_become_6 lfX1_9 hM (by omega) rfl ?_
  refine x_iconst C dX1_become_9 ?_
  refine x_sipush C dX1_become_10 (by decide) ?_
  refine x_acopy C dX1_become_13 laX1_18 (by decide) hE2 hE (by omega) (Nat.le_of_ble_eq_true rfl) ?_
  refine x_nm (fun s13 e13 => ?_)
  have hM := (congrFun e13 h).trans ((zsu_n _ _ (by omega)).trans hM)
  have hE := (congrFun e13 (h+1)).trans (zsu_s _ _ _)
  have hT := (congrFun e13 (h+2)).trans ((zsu_n _ _ (by omega)).trans hT)
  have hM2 := (congrFun e13 h2).trans ((zsu_n _ _ (by omega)).trans hM2)
  have hE2 := (congrFun e13 (h2+1)).trans ((zsu_n _ _ (by omega)).trans hE2)
  have hT2 := (congrFun e13 (h2+2)).trans ((zsu_n _ _ (by omega)).trans hT2)
  refine x_sim C e2 hE (fun j h1 h2 => by rw [if_pos (by omega)]; congr 1; omega) (x_nm (fun s14 e14 => ?_))
  have hE := (congrFun e14 (h + 1)).trans (zsu_s _ _ _)
  have hM := (congrFun e14 h).trans ((zsu_n _ _ (by omega)).trans hM)
  have hT := (congrFun e14 (h + 2)).trans ((zsu_n _ _ (by omega)).trans hT)
  have hM2 := (congrFun e14 h2).trans ((zsu_n _ _ (by omega)).trans hM2)
  have hE2 := (congrFun e14 (h2 + 1)).trans ((zsu_n _ _ (by omega)).trans hE2)
  have hT2 := (congrFun e14 (h2 + 2)).trans ((zsu_n _ _ (by omega)).trans hT2)
  refine x_aload_n C dX1_become_16 rfl ?_
  refine x_getfield C dX1_become_17 lfX1_15 hM2 (by omega) rfl ?_
  refine x_iconst C dX1_become_20 ?_
  refine x_aload_n C dX1_become_21 rfl ?_
  refine x_getfield C dX1_become_22 lfX1_15 hM (by omega) rfl ?_
  refine x_iconst C dX1_become_25 ?_
  refine x_bipush C dX1_become_26 (by decide) ?_
  refine x_acopy C dX1_become_28 laX1_18 (by decide) hT2 hT (by omega) (Nat.le_of_ble_eq_true rfl) ?_
  refine x_nm (fun s28 e28 => ?_)
  have hM := (congrFun e28 h).trans ((zsu_n _ _ (by omega)).trans hM)
  have hE := (congrFun e28 (h+1)).trans ((zsu_n _ _ (by omega)).trans hE)
  have hT := (congrFun e28 (h+2)).trans (zsu_s _ _ _)
  have hM2 := (congrFun e28 h2).trans ((zsu_n _ _ (by omega)).trans hM2)
  have hE2 := (congrFun e28 (h2+1)).trans ((zsu_n _ _ (by omega)).trans hE2)
  have hT2 := (congrFun e28 (h2+2)).trans ((zsu_n _ _ (by omega)).trans hT2)
  refine x_sim C t2 hT (fun j h1 h2 => by rw [if_pos (by omega)]; congr 1; omega) (x_nm (fun s29 e29 => ?_))
  exact x_vret (st := []) C dX1_become_31 rfl ⟨rfl, rfl, by rw [e29, e28, e14, e13, zsu_u, zsu_u], rfl⟩
end
