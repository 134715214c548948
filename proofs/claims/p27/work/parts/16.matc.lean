/-- a matrix gets new tables -/
def sM (σ : zS) (h : Int) (e t : Int → Int) : zS := zsu (zsu σ (h + 1) (zA 256 e)) (h + 2) (zA 85 t)
theorem sM_o (σ : zS) {h k : Int} (e t : Int → Int) (hk : k ≠ h + 1 ∧ k ≠ h + 2) : sM σ h e t k = σ k := by
  unfold sM
  rw [zsu_n _ _ hk.2, zsu_n _ _ hk.1]
theorem isM_s {σ : zS} {n : Nat} {h : Int} {e t : Int → Int} (hm : isM σ n h e t) (e2 t2 : Int → Int) : isM (sM σ h e2 t2) n h e2 t2 := by
  obtain ⟨h1, h2, h3, h4⟩ := hm
  refine ⟨(sM_o σ e2 t2 (by omega)).trans h1, ?_, zsu_s _ _ _, h4⟩
  unfold sM
  rw [zsu_n _ _ (by omega), zsu_s]
theorem isM_o {σ : zS} {n : Nat} {h h2 : Int} {e2 t2 : Int → Int} (hm : isM σ n h2 e2 t2) (hd : h2 + 2 < h ∨ h + 2 < h2) (e t : Int → Int) : isM (sM σ h e t) n h2 e2 t2 := by
  obtain ⟨h1, h3, h4, h5⟩ := hm
  exact ⟨(sM_o σ e t (by omega)).trans h1, (sM_o σ e t (by omega)).trans h3, (sM_o σ e t (by omega)).trans h4, h5⟩
theorem sM_e (σ : zS) (h : Int) (e t e2 : Int → Int) : zsu (sM σ h e t) (h + 1) (zA 256 e2) = sM σ h e2 t := by
  unfold sM
  rw [zsu_comm _ _ _ (show h + 2 ≠ h + 1 by omega), zsu_u]
theorem sM_t (σ : zS) (h : Int) (e t t2 : Int → Int) : zsu (sM σ h e t) (h + 2) (zA 85 t2) = sM σ h e t2 := by
  unfold sM
  rw [zsu_u]
theorem sM_sM (σ : zS) (h : Int) (e t e2 t2 : Int → Int) : sM (sM σ h e t) h e2 t2 = sM σ h e2 t2 := by
  show zsu (zsu (sM σ h e t) (h + 1) (zA 256 e2)) (h + 2) (zA 85 t2) = _
  rw [sM_e, sM_t]
theorem sM_self {σ : zS} {n : Nat} {h : Int} {e t : Int → Int} (hm : isM σ n h e t) : sM σ h e t = σ := by
  unfold sM
  rw [zsu_self hm.2.1, zsu_self hm.2.2.1]
theorem sM_e0 {σ : zS} {n : Nat} {h : Int} {e t : Int → Int} (hm : isM σ n h e t) (e2 : Int → Int) : zsu σ (h + 1) (zA 256 e2) = sM σ h e2 t := by
  rw [← sM_e σ h e t, sM_self hm]
theorem sM_t0 {σ : zS} {n : Nat} {h : Int} {e t : Int → Int} (hm : isM σ n h e t) (t2 : Int → Int) : zsu σ (h + 2) (zA 85 t2) = sM σ h e t2 := by
  rw [← sM_t σ h e t, sM_self hm]
theorem zmul16 {i k q : Int} (hi : 0 ≤ i ∧ i < q) (hk : 0 ≤ k ∧ k < q) (hq : q ≤ 16) : 0 ≤ i * q + k ∧ i * q + k < 256 := by
  have h1 : i * q ≤ 15 * q := Int.mul_le_mul_of_nonneg_right (by omega) (by omega)
  have h2 : 0 ≤ i * q := Int.mul_nonneg hi.1 (by omega)
  omega
theorem zszN {d : Int} (h : 0 ≤ d ∧ d ≤ 3) : ∃ q : Nat, zsz d = q ∧ 2 ≤ q ∧ q ≤ 16 := ⟨(zsz d).toNat, by have := zsz_v h; omega, by have := zsz_v h; omega, by have := zsz_v h; omega⟩
def zSt (t : Int → Int) : Prop := ∀ j, 0 ≤ t j ∧ t j ≤ 3
theorem zSt.u {t : Int → Int} (h : zSt t) (k : Int) {x : Int} (hx : 0 ≤ x ∧ x ≤ 3) : zSt (zu t k x) := by
  intro j
  unfold zu
  by_cases e : j = k
  · rw [if_pos e]; exact hx
  · rw [if_neg e]; exact h j
section
variable {n : Nat} {σ : zS}
theorem ctX1_setSort2 {h : Int} {e t : Int → Int} (hm : isM σ n h e t) (d row col x : Int) (hd : 0 ≤ d ∧ d ≤ 3) (hr : 0 ≤ row ∧ row < 16) (hc : 0 ≤ col ∧ col < 16) : zCt 2 0 0 yX1_setSort cX1_setSort 5 none [zr h, zi d, zi row, zi col, zi x] n σ none n (sM σ h e (zu t (zno d row col) x)) := by
  have := ctX1_setSort hm d row col x hd hr hc
  rwa [sM_t0 hm] at this
theorem ctX1_become2 {h h2 : Int} {e t e2 t2 : Int → Int} (hm : isM σ n h e t) (hm2 : isM σ n h2 e2 t2) (hd : h2 + 2 < h ∨ h + 2 < h2) : zCt 1 0 0 yX1_become cX1_become 2 none [zr h, zr h2] n σ none n (sM σ h e2 t2) := ctX1_become hm hm2 hd
theorem ctX1_setEmpty {h : Int} {e t : Int → Int} (hm : isM σ n h e t) (d row col : Int) (hd : 0 ≤ d ∧ d ≤ 3) (hr : 0 ≤ row ∧ row + zsz d ≤ 16) (hc : 0 ≤ col ∧ col + zsz d ≤ 16) : zCt 3 0 0 yX1_setEmpty cX1_setEmpty 7 none [zr h, zi d, zi row, zi col] n σ none n (sM σ h (zsq e row col (zsz d) (fun _ => 0)) (zu t (zno d row col) 0)) := by
  obtain ⟨q, hq, hq2, hq16⟩ := zszN hd
  rw [hq] at hr hc ⊢
  refine zCt.of (by decide) rfl (Nat.le_of_ble_eq_true rfl) (fun K C => ?_)
  have loop : ∀ i : Nat, i ≤ q → K 17 [some (zr h), some (zi d), some (zi row), some (zi col), some (zi (q : Int)), some (zi (i : Int)), none] [] n (sM σ h (zsp e row col q i 0 (fun _ => 0)) (zu t (zno d row col) 0)) 0 := by
    refine zloop _ q (fun i hi ih => ?_)
    have loop2 : i < q → ∀ k : Nat, k ≤ q → K 27 [some (zr h), some (zi d), some (zi row), some (zi col), some (zi (q : Int)), some (zi (i : Int)), some (zi (k : Int))] [] n (sM σ h (zsp e row col q i k (fun _ => 0)) (zu t (zno d row col) 0)) 0 := by
      intro hi2
      refine zloop _ q (fun k hk ih2 => ?_)
      obtain ⟨hM, hE, hT, hh⟩ := isM_s hm (zsp e row col q i k (fun _ => 0)) (zu t (zno d row col) 0)
      refine x_iload C dX1_setEmpty_27 rfl ?_
      refine x_iload C dX1_setEmpty_29 rfl ?_
      refine x_icmp_ge (tgt := 57) C dX1_setEmpty_31 (by decide) (by omega) (fun c31 => ?_) (fun c31 => ?_)
      · refine x_iinc C dX1_setEmpty_57 rfl (by decide) ?_
        refine x_goto (tgt := 17) C dX1_setEmpty_60 (by decide) ?_
        rw [show k = q by omega, zsp_r e (by omega)]
        refine x_weak C (Lo' := [some (zr h), some (zi d), some (zi row), some (zi col), some (zi (q : Int)), some (zi ((i + 1 : Nat) : Int)), none]) (fun j u hj => by match j, hj with | 0, hj => exact hj | 1, hj => exact hj | 2, hj => exact hj | 3, hj => exact hj | 4, hj => exact hj | 5, hj => exact hj | j + 7, hj => exact absurd hj (by simp [zg])) ?_
        exact ih (by omega)
      · refine x_aload_n C dX1_setEmpty_34 rfl ?_
        refine x_getfield C dX1_setEmpty_35 lfX1_9 hM (by omega) rfl ?_
        refine x_iload_n C dX1_setEmpty_38 rfl ?_
        refine x_iload C dX1_setEmpty_39 rfl ?_
        refine x_iadd C dX1_setEmpty_41 ?_
        refine x_iload_n C dX1_setEmpty_42 rfl ?_
        refine x_iload C dX1_setEmpty_43 rfl ?_
        refine x_iadd C dX1_setEmpty_45 ?_
        refine x_callS C dX1_setEmpty_46 (ctX1_cellOf _ _) okX1_cellOf lkX1_28 ⟨by decide, rfl, rfl, Nat.le_of_ble_eq_true rfl⟩ rfl (Or.inl ⟨rfl, rfl⟩) ?_
        refine x_iconst C dX1_setEmpty_49 ?_
        refine x_iastore C dX1_setEmpty_50 hE (by omega) ?_
        rw [sM_e, zsp_s e (fun _ => 0) (by omega) rfl]
        refine x_iinc C dX1_setEmpty_51 rfl (by decide) ?_
        refine x_goto (tgt := 27) C dX1_setEmpty_54 (by decide) ?_
        exact ih2 (by omega)
    refine x_iload C dX1_setEmpty_17 rfl ?_
    refine x_iload C dX1_setEmpty_19 rfl ?_
    refine x_icmp_ge (tgt := 63) C dX1_setEmpty_21 (by decide) (by omega) (fun c21 => ?_) (fun c21 => ?_)
    · exact x_vret (st := []) C dX1_setEmpty_63 rfl ⟨rfl, rfl, by rw [show i = q by omega, zsp_e], rfl⟩
    · refine x_iconst C dX1_setEmpty_24 ?_
      refine x_istore C dX1_setEmpty_25 (by decide) ?_
      exact loop2 (by omega) 0 (by omega)
  obtain ⟨hM, hE, hT, hh⟩ := hm
  have hm : isM σ n h e t := ⟨hM, hE, hT, hh⟩
  refine x_aload_n C dX1_setEmpty_0 rfl ?_
  refine x_iload_n C dX1_setEmpty_1 rfl ?_
  refine x_iload_n C dX1_setEmpty_2 rfl ?_
  refine x_iload_n C dX1_setEmpty_3 rfl ?_
  refine x_iconst C dX1_setEmpty_4 ?_
  refine x_callV C dX1_setEmpty_5 (ctX1_setSort2 hm d row col 0 hd (by omega) (by omega)) okX1_setSort lkX1_71 ⟨⟨hM, rfl, rfl⟩, (by omega)⟩ ⟨by decide, rfl, rfl, Nat.le_of_ble_eq_true rfl⟩ rfl (Or.inl ⟨rfl, rfl⟩) ?_
  refine x_iload_n C dX1_setEmpty_8 rfl ?_
  refine x_callSN C dX1_setEmpty_9 (ctX5_sizeAt d hd) okX5_sizeAt nkX1_24 ⟨by decide, rfl, rfl, Nat.le_of_ble_eq_true rfl⟩ rfl (Or.inl ⟨rfl, rfl⟩) ?_
  refine x_istore C dX1_setEmpty_12 (by decide) ?_
  refine x_iconst C dX1_setEmpty_14 ?_
  refine x_istore C dX1_setEmpty_15 (by decide) ?_
  rw [hq]
  have l0 := loop 0 (by omega)
  rw [show ((0 : Nat) : Int) = 0 from rfl, zsp_0] at l0
  exact l0
def zdp (t : Int → Int) (row col : Int) : Int := if t (zno 0 row col) = 3 then (if t (zno 1 row col) = 3 then (if t (zno 2 row col) = 3 then 3 else 2) else 1) else 0
theorem zdp_of {t : Int → Int} {row col : Int} {k : Nat} (hk : k ≤ 3) (hall : ∀ j : Nat, j < k → t (zno j row col) = 3) (hs : ¬ ((k : Int) < 3 ∧ t (zno k row col) = 3)) : zdp t row col = k := by
  have a0 : 0 < k → t (zno 0 row col) = 3 := hall 0
  have a1 : 1 < k → t (zno 1 row col) = 3 := hall 1
  have a2 : 2 < k → t (zno 2 row col) = 3 := hall 2
  unfold zdp
  have hk4 : k = 0 ∨ k = 1 ∨ k = 2 ∨ k = 3 := by omega
  rcases hk4 with rfl | rfl | rfl | rfl
  · have z : ¬ t (zno 0 row col) = 3 := fun q => hs ⟨by decide, q⟩
    rw [if_neg z]; rfl
  · have z : ¬ t (zno 1 row col) = 3 := fun q => hs ⟨by decide, q⟩
    rw [if_pos (a0 (by omega)), if_neg z]; rfl
  · have z : ¬ t (zno 2 row col) = 3 := fun q => hs ⟨by decide, q⟩
    rw [if_pos (a0 (by omega)), if_pos (a1 (by omega)), if_neg z]; rfl
  · rw [if_pos (a0 (by omega)), if_pos (a1 (by omega)), if_pos (a2 (by omega))]; rfl
theorem zdp_in (t : Int → Int) (row col : Int) : 0 ≤ zdp t row col ∧ zdp t row col ≤ 3 := by
  unfold zdp
  repeat' split
  all_goals decide
theorem ctX1_depthOf {h : Int} {e t : Int → Int} (hm : isM σ n h e t) (ht : zSt t) (row col : Int) (hr : 0 ≤ row ∧ row < 16) (hc : 0 ≤ col ∧ col < 16) : zCt 4 0 0 yX1_depthOf cX1_depthOf 4 (some .int) [zr h, zi row, zi col] n σ (some (zi (zdp t row col))) n σ := by
  obtain ⟨hM, hE, hT, hh⟩ := hm
  refine zCt.of (by decide) rfl (Nat.le_of_ble_eq_true rfl) (fun K C => ?_)
  have loop : ∀ k : Nat, k ≤ 3 → (∀ j : Nat, j < k → t (zno j row col) = 3) → K 2 [some (zr h), some (zi row), some (zi col), some (zi (k : Int))] [] n σ 0 := by
    refine zloop _ 3 (fun k hk ih hall => ?_)
    refine x_iload_n C dX1_depthOf_2 rfl ?_
    refine x_iconst C dX1_depthOf_3 ?_
    refine x_icmp_ge (tgt := 23) C dX1_depthOf_4 (by decide) (by omega) (fun c4 => ?_) (fun c4 => ?_)
    · refine x_iload_n C dX1_depthOf_23 rfl ?_
      exact x_iret (st := []) C dX1_depthOf_24 rfl ⟨congrArg (fun z => some (zi z)) (zdp_of hk hall (by omega)).symm, rfl, rfl, rfl⟩
    · refine x_aload_n C dX1_depthOf_7 rfl ?_
      refine x_iload_n C dX1_depthOf_8 rfl ?_
      refine x_iload_n C dX1_depthOf_9 rfl ?_
      refine x_iload_n C dX1_depthOf_10 rfl ?_
      refine x_callV C dX1_depthOf_11 (ctX1_isCut ⟨hM, hE, hT, hh⟩ ht _ row col (by omega) hr hc) okX1_isCut lkX1_39 ⟨⟨hM, rfl, rfl⟩, (by omega)⟩ ⟨by decide, rfl, rfl, Nat.le_of_ble_eq_true rfl⟩ rfl (Or.inl ⟨rfl, rfl⟩) ?_
      refine x_ifeq_d (tgt := 23) C dX1_depthOf_14 (by decide) (fun c14 => ?_) (fun c14 => ?_)
      · refine x_iload_n C dX1_depthOf_23 rfl ?_
        exact x_iret (st := []) C dX1_depthOf_24 rfl ⟨congrArg (fun z => some (zi z)) (zdp_of hk hall (by omega)).symm, rfl, rfl, rfl⟩
      · refine x_iinc C dX1_depthOf_17 rfl (by decide) ?_
        refine x_goto (tgt := 2) C dX1_depthOf_20 (by decide) ?_
        exact ih (by omega) (fun j hj => by
          rcases Nat.lt_or_ge j k with q | q
          · exact hall j q
          · rw [show j = k by omega]; exact c14.2)
  refine x_iconst C dX1_depthOf_0 ?_
  refine x_istore_n C dX1_depthOf_1 (by decide) ?_
  exact loop 0 (by omega) (fun j hj => absurd hj (by omega))
end
