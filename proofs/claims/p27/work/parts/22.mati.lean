/-- the place of an entry in the turned matrix -/
def ztE (j : Int) : Int := (j % 16) * 16 + j / 16
/-- rows up to i, and of the row i the places up to k, are turned -/
def ztp (e : Int → Int) (i k : Int) : Int → Int := fun j => if 0 ≤ j ∧ ((j / 16 < i ∧ j % 16 < i) ∨ (j / 16 = i ∧ j % 16 < k) ∨ (j % 16 = i ∧ j / 16 < k)) then e (ztE j) else e j
theorem ztp_0 (e : Int → Int) : ztp e 0 0 = e := by
  funext j
  unfold ztp
  rw [if_neg (by omega)]
theorem ztp_s (e : Int → Int) {i k : Int} (hi : 0 ≤ i ∧ i < 16) (hk : 0 ≤ k ∧ k < i) : zu (zu (ztp e i k) (i * 16 + k) (ztp e i k (k * 16 + i))) (k * 16 + i) (ztp e i k (i * 16 + k)) = ztp e i (k + 1) := by
  have e1 : ztp e i k (k * 16 + i) = e (k * 16 + i) := by unfold ztp; rw [if_neg (by omega)]
  have e2 : ztp e i k (i * 16 + k) = e (i * 16 + k) := by unfold ztp; rw [if_neg (by omega)]
  rw [e1, e2]
  funext j
  unfold zu ztp ztE
  by_cases h1 : j = k * 16 + i
  · rw [if_pos h1, if_pos (by omega)]
    congr 1
    omega
  · rw [if_neg h1]
    by_cases h2 : j = i * 16 + k
    · rw [if_pos h2, if_pos (by omega)]
      congr 1
      omega
    · rw [if_neg h2]
      by_cases h3 : 0 ≤ j ∧ ((j / 16 < i ∧ j % 16 < i) ∨ (j / 16 = i ∧ j % 16 < k) ∨ (j % 16 = i ∧ j / 16 < k))
      · rw [if_pos h3, if_pos (by omega)]
      · rw [if_neg h3, if_neg (by omega)]
theorem ztp_r (e : Int → Int) {i : Int} (hi : 0 ≤ i) : ztp e i i = ztp e (i + 1) 0 := by
  funext j
  unfold ztp
  by_cases h0 : j / 16 = i ∧ j % 16 = i
  · rw [if_neg (by omega)]
    by_cases h3 : 0 ≤ j ∧ ((j / 16 < i + 1 ∧ j % 16 < i + 1) ∨ (j / 16 = i + 1 ∧ j % 16 < 0) ∨ (j % 16 = i + 1 ∧ j / 16 < 0))
    · rw [if_pos h3]
      unfold ztE
      congr 1
      omega
    · rw [if_neg h3]
  · by_cases h3 : 0 ≤ j ∧ ((j / 16 < i ∧ j % 16 < i) ∨ (j / 16 = i ∧ j % 16 < i) ∨ (j % 16 = i ∧ j / 16 < i))
    · rw [if_pos h3, if_pos (by omega)]
    · rw [if_neg h3, if_neg (by omega)]
def ztq (F w : Int) (t : Int → Int) (i k : Int) : Int → Int := fun j => if F ≤ j ∧ (((j - F) / w < i ∧ (j - F) % w < i) ∨ ((j - F) / w = i ∧ (j - F) % w < k) ∨ ((j - F) % w = i ∧ (j - F) / w < k)) then t (F + (j - F) % w * w + (j - F) / w) else t j
def zts (d : Int) (t : Int → Int) : Int → Int := if d = 0 then ztq 0 1 t 1 0 else if d = 1 then ztq 1 2 t 2 0 else if d = 2 then ztq 5 4 t 4 0 else ztq 21 8 t 8 0
section
variable {n : Nat} {σ : zS}
theorem ztq0_0 (t : Int → Int) : ztq 0 1 t 0 0 = t := by
  funext j
  unfold ztq
  rw [if_neg (by omega)]
theorem ztq0_s (t : Int → Int) {i k : Int} (hi : 0 ≤ i ∧ i < 1) (hk : 0 ≤ k ∧ k < i) : zu (zu (ztq 0 1 t i k) (0 + i * 1 + k) (ztq 0 1 t i k (0 + k * 1 + i))) (0 + k * 1 + i) (ztq 0 1 t i k (0 + i * 1 + k)) = ztq 0 1 t i (k + 1) := by
  have e1 : ztq 0 1 t i k (0 + k * 1 + i) = t (0 + k * 1 + i) := by unfold ztq; rw [if_neg (by omega)]
  have e2 : ztq 0 1 t i k (0 + i * 1 + k) = t (0 + i * 1 + k) := by unfold ztq; rw [if_neg (by omega)]
  rw [e1, e2]
  funext j
  unfold zu ztq
  by_cases h1 : j = 0 + k * 1 + i
  · rw [if_pos h1, if_pos (by omega)]
    congr 1
    omega
  · rw [if_neg h1]
    by_cases h2 : j = 0 + i * 1 + k
    · rw [if_pos h2, if_pos (by omega)]
      congr 1
      omega
    · rw [if_neg h2]
      by_cases h3 : 0 ≤ j ∧ (((j - 0) / 1 < i ∧ (j - 0) % 1 < i) ∨ ((j - 0) / 1 = i ∧ (j - 0) % 1 < k) ∨ ((j - 0) % 1 = i ∧ (j - 0) / 1 < k))
      · rw [if_pos h3, if_pos (by omega)]
      · rw [if_neg h3, if_neg (by omega)]
theorem ztq0_r (t : Int → Int) {i : Int} (hi : 0 ≤ i) : ztq 0 1 t i i = ztq 0 1 t (i + 1) 0 := by
  funext j
  unfold ztq
  by_cases h0 : (j - 0) / 1 = i ∧ (j - 0) % 1 = i
  · rw [if_neg (by omega)]
    by_cases h3 : 0 ≤ j ∧ (((j - 0) / 1 < i + 1 ∧ (j - 0) % 1 < i + 1) ∨ ((j - 0) / 1 = i + 1 ∧ (j - 0) % 1 < 0) ∨ ((j - 0) % 1 = i + 1 ∧ (j - 0) / 1 < 0))
    · rw [if_pos h3]
      congr 1
      omega
    · rw [if_neg h3]
  · by_cases h3 : 0 ≤ j ∧ (((j - 0) / 1 < i ∧ (j - 0) % 1 < i) ∨ ((j - 0) / 1 = i ∧ (j - 0) % 1 < i) ∨ ((j - 0) % 1 = i ∧ (j - 0) / 1 < i))
    · rw [if_pos h3, if_pos (by omega)]
    · rw [if_neg h3, if_neg (by omega)]
theorem ctX1_transposeSorts0 {h : Int} {e t : Int → Int} (hm : isM σ n h e t) : zCt 2 0 0 yX1_transposeSorts cX1_transposeSorts 5 none [zr h, zi 0] n σ none n (sM σ h e (zts 0 t)) := by
  refine zCt.of (by decide) rfl (Nat.le_of_ble_eq_true rfl) (fun K C => ?_)
  have loop : ∀ i : Nat, i ≤ 1 → K 7 [some (zr h), some (zi 0), some (zi 16), some (zi ((i : Int) * 16)), none] [] n (sM σ h e (ztq 0 1 t i 0)) 0 := by
    refine zloop _ 1 (fun i hi ih => ?_)
    have loop2 : i < 1 → ∀ k : Nat, k ≤ i → K 16 [some (zr h), some (zi 0), some (zi 16), some (zi ((i : Int) * 16)), some (zi ((k : Int) * 16))] [] n (sM σ h e (ztq 0 1 t i k)) 0 := by
      intro hi2
      refine zloop _ i (fun k hk ih2 => ?_)
      have hn1 : zno 0 ((i : Int) * 16) ((k : Int) * 16) = 0 + i * 1 + k := by
        show 0 + ((i : Int) * 16) / 16 * 1 + ((k : Int) * 16) / 16 = _
        omega
      have hn2 : zno 0 ((k : Int) * 16) ((i : Int) * 16) = 0 + k * 1 + i := by
        show 0 + ((k : Int) * 16) / 16 * 1 + ((i : Int) * 16) / 16 = _
        omega
      obtain ⟨hM, hE, hT, hh⟩ := isM_s hm e (ztq 0 1 t i k)
      refine x_iload C dX1_transposeSorts_16 rfl ?_
      refine x_iload_n C dX1_transposeSorts_18 rfl ?_
      refine x_icmp_ge (tgt := 52) C dX1_transposeSorts_19 (by decide) (by omega) (fun c19 => ?_) (fun c19 => ?_)
      · refine x_iload_n C dX1_transposeSorts_52 rfl ?_
        refine x_iload_n C dX1_transposeSorts_53 rfl ?_
        refine x_iadd C dX1_transposeSorts_54 ?_
        refine x_istore_n C dX1_transposeSorts_55 (by decide) ?_
        refine x_goto (tgt := 7) C dX1_transposeSorts_56 (by decide) ?_
        have ih3 := ih (by omega)
        rw [show k = i by omega, ztq0_r t (by omega)]
        rw [show ((i + 1 : Nat) : Int) * 16 = i * 16 + 16 by omega] at ih3
        refine x_weak C (Lo' := [some (zr h), some (zi 0), some (zi 16), some (zi ((i : Int) * 16 + 16)), none]) (fun j u hj => by match j, hj with | 0, hj => exact hj | 1, hj => exact hj | 2, hj => exact hj | 3, hj => exact hj | j + 5, hj => exact absurd hj (by simp [zg])) ?_
        exact ih3
      · refine x_aload_n C dX1_transposeSorts_22 rfl ?_
        refine x_getfield C dX1_transposeSorts_23 lfX1_15 hM (by omega) rfl ?_
        refine x_iload_n C dX1_transposeSorts_26 rfl ?_
        refine x_iload_n C dX1_transposeSorts_27 rfl ?_
        refine x_iload C dX1_transposeSorts_28 rfl ?_
        refine x_callS C dX1_transposeSorts_30 (ctX1_numberOf 0 _ _ (by decide) (by omega) (by omega)) okX1_numberOf lkX1_32 ⟨by decide, rfl, rfl, Nat.le_of_ble_eq_true rfl⟩ rfl (Or.inl ⟨rfl, rfl⟩) ?_
        refine x_iload_n C dX1_transposeSorts_33 rfl ?_
        refine x_iload C dX1_transposeSorts_34 rfl ?_
        refine x_iload_n C dX1_transposeSorts_36 rfl ?_
        refine x_callS C dX1_transposeSorts_37 (ctX1_numberOf 0 _ _ (by decide) (by omega) (by omega)) okX1_numberOf lkX1_32 ⟨by decide, rfl, rfl, Nat.le_of_ble_eq_true rfl⟩ rfl (Or.inl ⟨rfl, rfl⟩) ?_
        refine x_callS C dX1_transposeSorts_40 (ctX1_swap hT (by omega) (by decide) _ _ (by omega) (by omega)) okX1_swap lkX1_111 ⟨by decide, rfl, rfl, Nat.le_of_ble_eq_true rfl⟩ rfl (Or.inl ⟨rfl, rfl⟩) ?_
        rw [sM_t, hn1, hn2, ztq0_s t (by omega) (by omega)]
        refine x_iload C dX1_transposeSorts_43 rfl ?_
        refine x_iload_n C dX1_transposeSorts_45 rfl ?_
        refine x_iadd C dX1_transposeSorts_46 ?_
        refine x_istore C dX1_transposeSorts_47 (by decide) ?_
        refine x_goto (tgt := 16) C dX1_transposeSorts_49 (by decide) ?_
        have ih3 := ih2 (by omega)
        rw [show ((k + 1 : Nat) : Int) * 16 = k * 16 + 16 by omega] at ih3
        exact ih3
    refine x_iload_n C dX1_transposeSorts_7 rfl ?_
    refine x_bipush C dX1_transposeSorts_8 (by decide) ?_
    refine x_icmp_ge (tgt := 59) C dX1_transposeSorts_10 (by decide) (by omega) (fun c10 => ?_) (fun c10 => ?_)
    · exact x_vret (st := []) C dX1_transposeSorts_59 rfl ⟨rfl, rfl, by rw [show i = 1 by omega]; rfl, rfl⟩
    · refine x_iconst C dX1_transposeSorts_13 ?_
      refine x_istore C dX1_transposeSorts_14 (by decide) ?_
      have l2 := loop2 (by omega) 0 (by omega)
      exact l2
  obtain ⟨hM, hE, hT, hh⟩ := hm
  have hm : isM σ n h e t := ⟨hM, hE, hT, hh⟩
  refine x_iload_n C dX1_transposeSorts_0 rfl ?_
  refine x_callSN C dX1_transposeSorts_1 (ctX5_sizeAt 0 (by decide)) okX5_sizeAt nkX1_24 ⟨by decide, rfl, rfl, Nat.le_of_ble_eq_true rfl⟩ rfl (Or.inl ⟨rfl, rfl⟩) ?_
  refine x_istore_n C dX1_transposeSorts_4 (by decide) ?_
  refine x_iconst C dX1_transposeSorts_5 ?_
  refine x_istore_n C dX1_transposeSorts_6 (by decide) ?_
  have l0 := loop 0 (by omega)
  rw [show ((0 : Nat) : Int) = 0 from rfl, ztq0_0, sM_self hm] at l0
  exact l0
theorem ztq1_0 (t : Int → Int) : ztq 1 2 t 0 0 = t := by
  funext j
  unfold ztq
  rw [if_neg (by omega)]
theorem ztq1_s (t : Int → Int) {i k : Int} (hi : 0 ≤ i ∧ i < 2) (hk : 0 ≤ k ∧ k < i) : zu (zu (ztq 1 2 t i k) (1 + i * 2 + k) (ztq 1 2 t i k (1 + k * 2 + i))) (1 + k * 2 + i) (ztq 1 2 t i k (1 + i * 2 + k)) = ztq 1 2 t i (k + 1) := by
  have e1 : ztq 1 2 t i k (1 + k * 2 + i) = t (1 + k * 2 + i) := by unfold ztq; rw [if_neg (by omega)]
  have e2 : ztq 1 2 t i k (1 + i * 2 + k) = t (1 + i * 2 + k) := by unfold ztq; rw [if_neg (by omega)]
  rw [e1, e2]
  funext j
  unfold zu ztq
  by_cases h1 : j = 1 + k * 2 + i
  · rw [if_pos h1, if_pos (by omega)]
    congr 1
    omega
  · rw [if_neg h1]
    by_cases h2 : j = 1 + i * 2 + k
    · rw [if_pos h2, if_pos (by omega)]
      congr 1
      omega
    · rw [if_neg h2]
      by_cases h3 : 1 ≤ j ∧ (((j - 1) / 2 < i ∧ (j - 1) % 2 < i) ∨ ((j - 1) / 2 = i ∧ (j - 1) % 2 < k) ∨ ((j - 1) % 2 = i ∧ (j - 1) / 2 < k))
      · rw [if_pos h3, if_pos (by omega)]
      · rw [if_neg h3, if_neg (by omega)]
theorem ztq1_r (t : Int → Int) {i : Int} (hi : 0 ≤ i) : ztq 1 2 t i i = ztq 1 2 t (i + 1) 0 := by
  funext j
  unfold ztq
  by_cases h0 : (j - 1) / 2 = i ∧ (j - 1) % 2 = i
  · rw [if_neg (by omega)]
    by_cases h3 : 1 ≤ j ∧ (((j - 1) / 2 < i + 1 ∧ (j - 1) % 2 < i + 1) ∨ ((j - 1) / 2 = i + 1 ∧ (j - 1) % 2 < 0) ∨ ((j - 1) % 2 = i + 1 ∧ (j - 1) / 2 < 0))
    · rw [if_pos h3]
      congr 1
      omega
    · rw [if_neg h3]
  · by_cases h3 : 1 ≤ j ∧ (((j - 1) / 2 < i ∧ (j - 1) % 2 < i) ∨ ((j - 1) / 2 = i ∧ (j - 1) % 2 < i) ∨ ((j - 1) % 2 = i ∧ (j - 1) / 2 < i))
    · rw [if_pos h3, if_pos (by omega)]
    · rw [if_neg h3, if_neg (by omega)]
theorem ctX1_transposeSorts1 {h : Int} {e t : Int → Int} (hm : isM σ n h e t) : zCt 2 0 0 yX1_transposeSorts cX1_transposeSorts 5 none [zr h, zi 1] n σ none n (sM σ h e (zts 1 t)) := by
  refine zCt.of (by decide) rfl (Nat.le_of_ble_eq_true rfl) (fun K C => ?_)
  have loop : ∀ i : Nat, i ≤ 2 → K 7 [some (zr h), some (zi 1), some (zi 8), some (zi ((i : Int) * 8)), none] [] n (sM σ h e (ztq 1 2 t i 0)) 0 := by
    refine zloop _ 2 (fun i hi ih => ?_)
    have loop2 : i < 2 → ∀ k : Nat, k ≤ i → K 16 [some (zr h), some (zi 1), some (zi 8), some (zi ((i : Int) * 8)), some (zi ((k : Int) * 8))] [] n (sM σ h e (ztq 1 2 t i k)) 0 := by
      intro hi2
      refine zloop _ i (fun k hk ih2 => ?_)
      have hn1 : zno 1 ((i : Int) * 8) ((k : Int) * 8) = 1 + i * 2 + k := by
        show 1 + ((i : Int) * 8) / 8 * 2 + ((k : Int) * 8) / 8 = _
        omega
      have hn2 : zno 1 ((k : Int) * 8) ((i : Int) * 8) = 1 + k * 2 + i := by
        show 1 + ((k : Int) * 8) / 8 * 2 + ((i : Int) * 8) / 8 = _
        omega
      obtain ⟨hM, hE, hT, hh⟩ := isM_s hm e (ztq 1 2 t i k)
      refine x_iload C dX1_transposeSorts_16 rfl ?_
      refine x_iload_n C dX1_transposeSorts_18 rfl ?_
      refine x_icmp_ge (tgt := 52) C dX1_transposeSorts_19 (by decide) (by omega) (fun c19 => ?_) (fun c19 => ?_)
      · refine x_iload_n C dX1_transposeSorts_52 rfl ?_
        refine x_iload_n C dX1_transposeSorts_53 rfl ?_
        refine x_iadd C dX1_transposeSorts_54 ?_
        refine x_istore_n C dX1_transposeSorts_55 (by decide) ?_
        refine x_goto (tgt := 7) C dX1_transposeSorts_56 (by decide) ?_
        have ih3 := ih (by omega)
        rw [show k = i by omega, ztq1_r t (by omega)]
        rw [show ((i + 1 : Nat) : Int) * 8 = i * 8 + 8 by omega] at ih3
        refine x_weak C (Lo' := [some (zr h), some (zi 1), some (zi 8), some (zi ((i : Int) * 8 + 8)), none]) (fun j u hj => by match j, hj with | 0, hj => exact hj | 1, hj => exact hj | 2, hj => exact hj | 3, hj => exact hj | j + 5, hj => exact absurd hj (by simp [zg])) ?_
        exact ih3
      · refine x_aload_n C dX1_transposeSorts_22 rfl ?_
        refine x_getfield C dX1_transposeSorts_23 lfX1_15 hM (by omega) rfl ?_
        refine x_iload_n C dX1_transposeSorts_26 rfl ?_
        refine x_iload_n C dX1_transposeSorts_27 rfl ?_
        refine x_iload C dX1_transposeSorts_28 rfl ?_
        refine x_callS C dX1_transposeSorts_30 (ctX1_numberOf 1 _ _ (by decide) (by omega) (by omega)) okX1_numberOf lkX1_32 ⟨by decide, rfl, rfl, Nat.le_of_ble_eq_true rfl⟩ rfl (Or.inl ⟨rfl, rfl⟩) ?_
        refine x_iload_n C dX1_transposeSorts_33 rfl ?_
        refine x_iload C dX1_transposeSorts_34 rfl ?_
        refine x_iload_n C dX1_transposeSorts_36 rfl ?_
        refine x_callS C dX1_transposeSorts_37 (ctX1_numberOf 1 _ _ (by decide) (by omega) (by omega)) okX1_numberOf lkX1_32 ⟨by decide, rfl, rfl, Nat.le_of_ble_eq_true rfl⟩ rfl (Or.inl ⟨rfl, rfl⟩) ?_
        refine x_callS C dX1_transposeSorts_40 (ctX1_swap hT (by omega) (by decide) _ _ (by omega) (by omega)) okX1_swap lkX1_111 ⟨by decide, rfl, rfl, Nat.le_of_ble_eq_true rfl⟩ rfl (Or.inl ⟨rfl, rfl⟩) ?_
        rw [sM_t, hn1, hn2, ztq1_s t (by omega) (by omega)]
        refine x_iload C dX1_transposeSorts_43 rfl ?_
        refine x_iload_n C dX1_transposeSorts_45 rfl ?_
        refine x_iadd C dX1_transposeSorts_46 ?_
        refine x_istore C dX1_transposeSorts_47 (by decide) ?_
        refine x_goto (tgt := 16) C dX1_transposeSorts_49 (by decide) ?_
        have ih3 := ih2 (by omega)
        rw [show ((k + 1 : Nat) : Int) * 8 = k * 8 + 8 by omega] at ih3
        exact ih3
    refine x_iload_n C dX1_transposeSorts_7 rfl ?_
    refine x_bipush C dX1_transposeSorts_8 (by decide) ?_
    refine x_icmp_ge (tgt := 59) C dX1_transposeSorts_10 (by decide) (by omega) (fun c10 => ?_) (fun c10 => ?_)
    · exact x_vret (st := []) C dX1_transposeSorts_59 rfl ⟨rfl, rfl, by rw [show i = 2 by omega]; rfl, rfl⟩
    · refine x_iconst C dX1_transposeSorts_13 ?_
      refine x_istore C dX1_transposeSorts_14 (by decide) ?_
      have l2 := loop2 (by omega) 0 (by omega)
      exact l2
  obtain ⟨hM, hE, hT, hh⟩ := hm
  have hm : isM σ n h e t := ⟨hM, hE, hT, hh⟩
  refine x_iload_n C dX1_transposeSorts_0 rfl ?_
  refine x_callSN C dX1_transposeSorts_1 (ctX5_sizeAt 1 (by decide)) okX5_sizeAt nkX1_24 ⟨by decide, rfl, rfl, Nat.le_of_ble_eq_true rfl⟩ rfl (Or.inl ⟨rfl, rfl⟩) ?_
  refine x_istore_n C dX1_transposeSorts_4 (by decide) ?_
  refine x_iconst C dX1_transposeSorts_5 ?_
  refine x_istore_n C dX1_transposeSorts_6 (by decide) ?_
  have l0 := loop 0 (by omega)
  rw [show ((0 : Nat) : Int) = 0 from rfl, ztq1_0, sM_self hm] at l0
  exact l0
theorem ztq2_0 (t : Int → Int) : ztq 5 4 t 0 0 = t := by
  funext j
  unfold ztq
  rw [if_neg (by omega)]
theorem ztq2_s (t : Int → Int) {i k : Int} (hi : 0 ≤ i ∧ i < 4) (hk : 0 ≤ k ∧ k < i) : zu (zu (ztq 5 4 t i k) (5 + i * 4 + k) (ztq 5 4 t i k (5 + k * 4 + i))) (5 + k * 4 + i) (ztq 5 4 t i k (5 + i * 4 + k)) = ztq 5 4 t i (k + 1) := by
  have e1 : ztq 5 4 t i k (5 + k * 4 + i) = t (5 + k * 4 + i) := by unfold ztq; rw [if_neg (by omega)]
  have e2 : ztq 5 4 t i k (5 + i * 4 + k) = t (5 + i * 4 + k) := by unfold ztq; rw [if_neg (by omega)]
  rw [e1, e2]
  funext j
  unfold zu ztq
  by_cases h1 : j = 5 + k * 4 + i
  · rw [if_pos h1, if_pos (by omega)]
    congr 1
    omega
  · rw [if_neg h1]
    by_cases h2 : j = 5 + i * 4 + k
    · rw [if_pos h2, if_pos (by omega)]
      congr 1
      omega
    · rw [if_neg h2]
      by_cases h3 : 5 ≤ j ∧ (((j - 5) / 4 < i ∧ (j - 5) % 4 < i) ∨ ((j - 5) / 4 = i ∧ (j - 5) % 4 < k) ∨ ((j - 5) % 4 = i ∧ (j - 5) / 4 < k))
      · rw [if_pos h3, if_pos (by omega)]
      · rw [if_neg h3, if_neg (by omega)]
theorem ztq2_r (t : Int → Int) {i : Int} (hi : 0 ≤ i) : ztq 5 4 t i i = ztq 5 4 t (i + 1) 0 := by
  funext j
  unfold ztq
  by_cases h0 : (j - 5) / 4 = i ∧ (j - 5) % 4 = i
  · rw [if_neg (by omega)]
    by_cases h3 : 5 ≤ j ∧ (((j - 5) / 4 < i + 1 ∧ (j - 5) % 4 < i + 1) ∨ ((j - 5) / 4 = i + 1 ∧ (j - 5) % 4 < 0) ∨ ((j - 5) % 4 = i + 1 ∧ (j - 5) / 4 < 0))
    · rw [if_pos h3]
      congr 1
      omega
    · rw [if_neg h3]
  · by_cases h3 : 5 ≤ j ∧ (((j - 5) / 4 < i ∧ (j - 5) % 4 < i) ∨ ((j - 5) / 4 = i ∧ (j - 5) % 4 < i) ∨ ((j - 5) % 4 = i ∧ (j - 5) / 4 < i))
    · rw [if_pos h3, if_pos (by omega)]
    · rw [if_neg h3, if_neg (by omega)]
theorem ctX1_transposeSorts2 {h : Int} {e t : Int → Int} (hm : isM σ n h e t) : zCt 2 0 0 yX1_transposeSorts cX1_transposeSorts 5 none [zr h, zi 2] n σ none n (sM σ h e (zts 2 t)) := by
  refine zCt.of (by decide) rfl (Nat.le_of_ble_eq_true rfl) (fun K C => ?_)
  have loop : ∀ i : Nat, i ≤ 4 → K 7 [some (zr h), some (zi 2), some (zi 4), some (zi ((i : Int) * 4)), none] [] n (sM σ h e (ztq 5 4 t i 0)) 0 := by
    refine zloop _ 4 (fun i hi ih => ?_)
    have loop2 : i < 4 → ∀ k : Nat, k ≤ i → K 16 [some (zr h), some (zi 2), some (zi 4), some (zi ((i : Int) * 4)), some (zi ((k : Int) * 4))] [] n (sM σ h e (ztq 5 4 t i k)) 0 := by
      intro hi2
      refine zloop _ i (fun k hk ih2 => ?_)
      have hn1 : zno 2 ((i : Int) * 4) ((k : Int) * 4) = 5 + i * 4 + k := by
        show 5 + ((i : Int) * 4) / 4 * 4 + ((k : Int) * 4) / 4 = _
        omega
      have hn2 : zno 2 ((k : Int) * 4) ((i : Int) * 4) = 5 + k * 4 + i := by
        show 5 + ((k : Int) * 4) / 4 * 4 + ((i : Int) * 4) / 4 = _
        omega
      obtain ⟨hM, hE, hT, hh⟩ := isM_s hm e (ztq 5 4 t i k)
      refine x_iload C dX1_transposeSorts_16 rfl ?_
      refine x_iload_n C dX1_transposeSorts_18 rfl ?_
      refine x_icmp_ge (tgt := 52) C dX1_transposeSorts_19 (by decide) (by omega) (fun c19 => ?_) (fun c19 => ?_)
      · refine x_iload_n C dX1_transposeSorts_52 rfl ?_
        refine x_iload_n C dX1_transposeSorts_53 rfl ?_
        refine x_iadd C dX1_transposeSorts_54 ?_
        refine x_istore_n C dX1_transposeSorts_55 (by decide) ?_
        refine x_goto (tgt := 7) C dX1_transposeSorts_56 (by decide) ?_
        have ih3 := ih (by omega)
        rw [show k = i by omega, ztq2_r t (by omega)]
        rw [show ((i + 1 : Nat) : Int) * 4 = i * 4 + 4 by omega] at ih3
        refine x_weak C (Lo' := [some (zr h), some (zi 2), some (zi 4), some (zi ((i : Int) * 4 + 4)), none]) (fun j u hj => by match j, hj with | 0, hj => exact hj | 1, hj => exact hj | 2, hj => exact hj | 3, hj => exact hj | j + 5, hj => exact absurd hj (by simp [zg])) ?_
        exact ih3
      · refine x_aload_n C dX1_transposeSorts_22 rfl ?_
        refine x_getfield C dX1_transposeSorts_23 lfX1_15 hM (by omega) rfl ?_
        refine x_iload_n C dX1_transposeSorts_26 rfl ?_
        refine x_iload_n C dX1_transposeSorts_27 rfl ?_
        refine x_iload C dX1_transposeSorts_28 rfl ?_
        refine x_callS C dX1_transposeSorts_30 (ctX1_numberOf 2 _ _ (by decide) (by omega) (by omega)) okX1_numberOf lkX1_32 ⟨by decide, rfl, rfl, Nat.le_of_ble_eq_true rfl⟩ rfl (Or.inl ⟨rfl, rfl⟩) ?_
        refine x_iload_n C dX1_transposeSorts_33 rfl ?_
        refine x_iload C dX1_transposeSorts_34 rfl ?_
        refine x_iload_n C dX1_transposeSorts_36 rfl ?_
        refine x_callS C dX1_transposeSorts_37 (ctX1_numberOf 2 _ _ (by decide) (by omega) (by omega)) okX1_numberOf lkX1_32 ⟨by decide, rfl, rfl, Nat.le_of_ble_eq_true rfl⟩ rfl (Or.inl ⟨rfl, rfl⟩) ?_
        refine x_callS C dX1_transposeSorts_40 (ctX1_swap hT (by omega) (by decide) _ _ (by omega) (by omega)) okX1_swap lkX1_111 ⟨by decide, rfl, rfl, Nat.le_of_ble_eq_true rfl⟩ rfl (Or.inl ⟨rfl, rfl⟩) ?_
        rw [sM_t, hn1, hn2, ztq2_s t (by omega) (by omega)]
        refine x_iload C dX1_transposeSorts_43 rfl ?_
        refine x_iload_n C dX1_transposeSorts_45 rfl ?_
        refine x_iadd C dX1_transposeSorts_46 ?_
        refine x_istore C dX1_transposeSorts_47 (by decide) ?_
        refine x_goto (tgt := 16) C dX1_transposeSorts_49 (by decide) ?_
        have ih3 := ih2 (by omega)
        rw [show ((k + 1 : Nat) : Int) * 4 = k * 4 + 4 by omega] at ih3
        exact ih3
    refine x_iload_n C dX1_transposeSorts_7 rfl ?_
    refine x_bipush C dX1_transposeSorts_8 (by decide) ?_
    refine x_icmp_ge (tgt := 59) C dX1_transposeSorts_10 (by decide) (by omega) (fun c10 => ?_) (fun c10 => ?_)
    · exact x_vret (st := []) C dX1_transposeSorts_59 rfl ⟨rfl, rfl, by rw [show i = 4 by omega]; rfl, rfl⟩
    · refine x_iconst C dX1_transposeSorts_13 ?_
      refine x_istore C dX1_transposeSorts_14 (by decide) ?_
      have l2 := loop2 (by omega) 0 (by omega)
      exact l2
  obtain ⟨hM, hE, hT, hh⟩ := hm
  have hm : isM σ n h e t := ⟨hM, hE, hT, hh⟩
  refine x_iload_n C dX1_transposeSorts_0 rfl ?_
  refine x_callSN C dX1_transposeSorts_1 (ctX5_sizeAt 2 (by decide)) okX5_sizeAt nkX1_24 ⟨by decide, rfl, rfl, Nat.le_of_ble_eq_true rfl⟩ rfl (Or.inl ⟨rfl, rfl⟩) ?_
  refine x_istore_n C dX1_transposeSorts_4 (by decide) ?_
  refine x_iconst C dX1_transposeSorts_5 ?_
  refine x_istore_n C dX1_transposeSorts_6 (by decide) ?_
  have l0 := loop 0 (by omega)
  rw [show ((0 : Nat) : Int) = 0 from rfl, ztq2_0, sM_self hm] at l0
  exact l0
theorem ztq3_0 (t : Int → Int) : ztq 21 8 t 0 0 = t := by
  funext j
  unfold ztq
  rw [if_neg (by omega)]
theorem ztq3_s (t : Int → Int) {i k : Int} (hi : 0 ≤ i ∧ i < 8) (hk : 0 ≤ k ∧ k < i) : zu (zu (ztq 21 8 t i k) (21 + i * 8 + k) (ztq 21 8 t i k (21 + k * 8 + i))) (21 + k * 8 + i) (ztq 21 8 t i k (21 + i * 8 + k)) = ztq 21 8 t i (k + 1) := by
  have e1 : ztq 21 8 t i k (21 + k * 8 + i) = t (21 + k * 8 + i) := by unfold ztq; rw [if_neg (by omega)]
  have e2 : ztq 21 8 t i k (21 + i * 8 + k) = t (21 + i * 8 + k) := by unfold ztq; rw [if_neg (by omega)]
  rw [e1, e2]
  funext j
  unfold zu ztq
  by_cases h1 : j = 21 + k * 8 + i
  · rw [if_pos h1, if_pos (by omega)]
    congr 1
    omega
  · rw [if_neg h1]
    by_cases h2 : j = 21 + i * 8 + k
    · rw [if_pos h2, if_pos (by omega)]
      congr 1
      omega
    · rw [if_neg h2]
      by_cases h3 : 21 ≤ j ∧ (((j - 21) / 8 < i ∧ (j - 21) % 8 < i) ∨ ((j - 21) / 8 = i ∧ (j - 21) % 8 < k) ∨ ((j - 21) % 8 = i ∧ (j - 21) / 8 < k))
      · rw [if_pos h3, if_pos (by omega)]
      · rw [if_neg h3, if_neg (by omega)]
theorem ztq3_r (t : Int → Int) {i : Int} (hi : 0 ≤ i) : ztq 21 8 t i i = ztq 21 8 t (i + 1) 0 := by
  funext j
  unfold ztq
  by_cases h0 : (j - 21) / 8 = i ∧ (j - 21) % 8 = i
  · rw [if_neg (by omega)]
    by_cases h3 : 21 ≤ j ∧ (((j - 21) / 8 < i + 1 ∧ (j - 21) % 8 < i + 1) ∨ ((j - 21) / 8 = i + 1 ∧ (j - 21) % 8 < 0) ∨ ((j - 21) % 8 = i + 1 ∧ (j - 21) / 8 < 0))
    · rw [if_pos h3]
      congr 1
      omega
    · rw [if_neg h3]
  · by_cases h3 : 21 ≤ j ∧ (((j - 21) / 8 < i ∧ (j - 21) % 8 < i) ∨ ((j - 21) / 8 = i ∧ (j - 21) % 8 < i) ∨ ((j - 21) % 8 = i ∧ (j - 21) / 8 < i))
    · rw [if_pos h3, if_pos (by omega)]
    · rw [if_neg h3, if_neg (by omega)]
theorem ctX1_transposeSorts3 {h : Int} {e t : Int → Int} (hm : isM σ n h e t) : zCt 2 0 0 yX1_transposeSorts cX1_transposeSorts 5 none [zr h, zi 3] n σ none n (sM σ h e (zts 3 t)) := by
  refine zCt.of (by decide) rfl (Nat.le_of_ble_eq_true rfl) (fun K C => ?_)
  have loop : ∀ i : Nat, i ≤ 8 → K 7 [some (zr h), some (zi 3), some (zi 2), some (zi ((i : Int) * 2)), none] [] n (sM σ h e (ztq 21 8 t i 0)) 0 := by
    refine zloop _ 8 (fun i hi ih => ?_)
    have loop2 : i < 8 → ∀ k : Nat, k ≤ i → K 16 [some (zr h), some (zi 3), some (zi 2), some (zi ((i : Int) * 2)), some (zi ((k : Int) * 2))] [] n (sM σ h e (ztq 21 8 t i k)) 0 := by
      intro hi2
      refine zloop _ i (fun k hk ih2 => ?_)
      have hn1 : zno 3 ((i : Int) * 2) ((k : Int) * 2) = 21 + i * 8 + k := by
        show 21 + ((i : Int) * 2) / 2 * 8 + ((k : Int) * 2) / 2 = _
        omega
      have hn2 : zno 3 ((k : Int) * 2) ((i : Int) * 2) = 21 + k * 8 + i := by
        show 21 + ((k : Int) * 2) / 2 * 8 + ((i : Int) * 2) / 2 = _
        omega
      obtain ⟨hM, hE, hT, hh⟩ := isM_s hm e (ztq 21 8 t i k)
      refine x_iload C dX1_transposeSorts_16 rfl ?_
      refine x_iload_n C dX1_transposeSorts_18 rfl ?_
      refine x_icmp_ge (tgt := 52) C dX1_transposeSorts_19 (by decide) (by omega) (fun c19 => ?_) (fun c19 => ?_)
      · refine x_iload_n C dX1_transposeSorts_52 rfl ?_
        refine x_iload_n C dX1_transposeSorts_53 rfl ?_
        refine x_iadd C dX1_transposeSorts_54 ?_
        refine x_istore_n C dX1_transposeSorts_55 (by decide) ?_
        refine x_goto (tgt := 7) C dX1_transposeSorts_56 (by decide) ?_
        have ih3 := ih (by omega)
        rw [show k = i by omega, ztq3_r t (by omega)]
        rw [show ((i + 1 : Nat) : Int) * 2 = i * 2 + 2 by omega] at ih3
        refine x_weak C (Lo' := [some (zr h), some (zi 3), some (zi 2), some (zi ((i : Int) * 2 + 2)), none]) (fun j u hj => by match j, hj with | 0, hj => exact hj | 1, hj => exact hj | 2, hj => exact hj | 3, hj => exact hj | j + 5, hj => exact absurd hj (by simp [zg])) ?_
        exact ih3
      · refine x_aload_n C dX1_transposeSorts_22 rfl ?_
        refine x_getfield C dX1_transposeSorts_23 lfX1_15 hM (by omega) rfl ?_
        refine x_iload_n C dX1_transposeSorts_26 rfl ?_
        refine x_iload_n C dX1_transposeSorts_27 rfl ?_
        refine x_iload C dX1_transposeSorts_28 rfl ?_
        refine x_callS C dX1_transposeSorts_30 (ctX1_numberOf 3 _ _ (by decide) (by omega) (by omega)) okX1_numberOf lkX1_32 ⟨by decide, rfl, rfl, Nat.le_of_ble_eq_true rfl⟩ rfl (Or.inl ⟨rfl, rfl⟩) ?_
        refine x_iload_n C dX1_transposeSorts_33 rfl ?_
        refine x_iload C dX1_transposeSorts_34 rfl ?_
        refine x_iload_n C dX1_transposeSorts_36 rfl ?_
        refine x_callS C dX1_transposeSorts_37 (ctX1_numberOf 3 _ _ (by decide) (by omega) (by omega)) okX1_numberOf lkX1_32 ⟨by decide, rfl, rfl, Nat.le_of_ble_eq_true rfl⟩ rfl (Or.inl ⟨rfl, rfl⟩) ?_
        refine x_callS C dX1_transposeSorts_40 (ctX1_swap hT (by omega) (by decide) _ _ (by omega) (by omega)) okX1_swap lkX1_111 ⟨by decide, rfl, rfl, Nat.le_of_ble_eq_true rfl⟩ rfl (Or.inl ⟨rfl, rfl⟩) ?_
        rw [sM_t, hn1, hn2, ztq3_s t (by omega) (by omega)]
        refine x_iload C dX1_transposeSorts_43 rfl ?_
        refine x_iload_n C dX1_transposeSorts_45 rfl ?_
        refine x_iadd C dX1_transposeSorts_46 ?_
        refine x_istore C dX1_transposeSorts_47 (by decide) ?_
        refine x_goto (tgt := 16) C dX1_transposeSorts_49 (by decide) ?_
        have ih3 := ih2 (by omega)
        rw [show ((k + 1 : Nat) : Int) * 2 = k * 2 + 2 by omega] at ih3
        exact ih3
    refine x_iload_n C dX1_transposeSorts_7 rfl ?_
    refine x_bipush C dX1_transposeSorts_8 (by decide) ?_
    refine x_icmp_ge (tgt := 59) C dX1_transposeSorts_10 (by decide) (by omega) (fun c10 => ?_) (fun c10 => ?_)
    · exact x_vret (st := []) C dX1_transposeSorts_59 rfl ⟨rfl, rfl, by rw [show i = 8 by omega]; rfl, rfl⟩
    · refine x_iconst C dX1_transposeSorts_13 ?_
      refine x_istore C dX1_transposeSorts_14 (by decide) ?_
      have l2 := loop2 (by omega) 0 (by omega)
      exact l2
  obtain ⟨hM, hE, hT, hh⟩ := hm
  have hm : isM σ n h e t := ⟨hM, hE, hT, hh⟩
  refine x_iload_n C dX1_transposeSorts_0 rfl ?_
  refine x_callSN C dX1_transposeSorts_1 (ctX5_sizeAt 3 (by decide)) okX5_sizeAt nkX1_24 ⟨by decide, rfl, rfl, Nat.le_of_ble_eq_true rfl⟩ rfl (Or.inl ⟨rfl, rfl⟩) ?_
  refine x_istore_n C dX1_transposeSorts_4 (by decide) ?_
  refine x_iconst C dX1_transposeSorts_5 ?_
  refine x_istore_n C dX1_transposeSorts_6 (by decide) ?_
  have l0 := loop 0 (by omega)
  rw [show ((0 : Nat) : Int) = 0 from rfl, ztq3_0, sM_self hm] at l0
  exact l0
theorem ctX1_transposeSorts {h : Int} {e t : Int → Int} (hm : isM σ n h e t) (d : Int) (hd : 0 ≤ d ∧ d ≤ 3) : zCt 2 0 0 yX1_transposeSorts cX1_transposeSorts 5 none [zr h, zi d] n σ none n (sM σ h e (zts d t)) := by
  rcases z4 hd with rfl | rfl | rfl | rfl
  · exact ctX1_transposeSorts0 hm
  · exact ctX1_transposeSorts1 hm
  · exact ctX1_transposeSorts2 hm
  · exact ctX1_transposeSorts3 hm
theorem ctX1_transpose {h : Int} {e t : Int → Int} (hm : isM σ n h e t) : zCt 3 0 0 yX1_transpose cX1_transpose 3 none [zr h] n σ none n (sM σ h (ztp e 16 0) (zfo (fun t d => zts d t) t 4)) := by
  refine zCt.of (by decide) rfl (Nat.le_of_ble_eq_true rfl) (fun K C => ?_)
  have loop3 : ∀ k : Nat, k ≤ 4 → K 46 [some (zr h), some (zi (k : Int)), none] [] n (sM σ h (ztp e 16 0) (zfo (fun t d => zts d t) t k)) 0 := by
    refine zloop _ 4 (fun k hk ih => ?_)
    obtain ⟨hM, hE, hT, hh⟩ := isM_s hm (ztp e 16 0) (zfo (fun t d => zts d t) t k)
    refine x_iload_n C dX1_transpose_46 rfl ?_
    refine x_iconst C dX1_transpose_47 ?_
    refine x_icmp_gt (tgt := 62) C dX1_transpose_48 (by decide) (by omega) (fun c48 => ?_) (fun c48 => ?_)
    · exact x_vret (st := []) C dX1_transpose_62 rfl ⟨rfl, rfl, by rw [show k = 4 by omega], rfl⟩
    · refine x_aload_n C dX1_transpose_51 rfl ?_
      refine x_iload_n C dX1_transpose_52 rfl ?_
      refine x_callV C dX1_transpose_53 (ctX1_transposeSorts ⟨hM, hE, hT, hh⟩ k (by omega)) okX1_transposeSorts lkX1_115 ⟨⟨hM, rfl, rfl⟩, (by omega)⟩ ⟨by decide, rfl, rfl, Nat.le_of_ble_eq_true rfl⟩ rfl (Or.inl ⟨rfl, rfl⟩) ?_
      rw [sM_sM]
      refine x_iinc C dX1_transpose_56 rfl (by decide) ?_
      refine x_goto (tgt := 46) C dX1_transpose_59 (by decide) ?_
      exact ih (by omega)
  have loop : ∀ i : Nat, i ≤ 16 → K 2 [some (zr h), some (zi (i : Int)), none] [] n (sM σ h (ztp e i 0) t) 0 := by
    refine zloop _ 16 (fun i hi ih => ?_)
    have loop2 : i < 16 → ∀ k : Nat, k ≤ i → K 10 [some (zr h), some (zi (i : Int)), some (zi (k : Int))] [] n (sM σ h (ztp e i k) t) 0 := by
      intro hi2
      refine zloop _ i (fun k hk ih2 => ?_)
      obtain ⟨hM, hE, hT, hh⟩ := isM_s hm (ztp e i k) t
      refine x_iload_n C dX1_transpose_10 rfl ?_
      refine x_iload_n C dX1_transpose_11 rfl ?_
      refine x_icmp_ge (tgt := 38) C dX1_transpose_12 (by decide) (by omega) (fun c12 => ?_) (fun c12 => ?_)
      · refine x_iinc C dX1_transpose_38 rfl (by decide) ?_
        refine x_goto (tgt := 2) C dX1_transpose_41 (by decide) ?_
        rw [show k = i by omega, ztp_r e (by omega)]
        refine x_weak C (Lo' := [some (zr h), some (zi ((i + 1 : Nat) : Int)), none]) (fun j u hj => by match j, hj with | 0, hj => exact hj | 1, hj => exact hj | j + 3, hj => exact absurd hj (by simp [zg])) ?_
        exact ih (by omega)
      · refine x_aload_n C dX1_transpose_15 rfl ?_
        refine x_getfield C dX1_transpose_16 lfX1_9 hM (by omega) rfl ?_
        refine x_iload_n C dX1_transpose_19 rfl ?_
        refine x_iload_n C dX1_transpose_20 rfl ?_
        refine x_callS C dX1_transpose_21 (ctX1_cellOf _ _) okX1_cellOf lkX1_28 ⟨by decide, rfl, rfl, Nat.le_of_ble_eq_true rfl⟩ rfl (Or.inl ⟨rfl, rfl⟩) ?_
        refine x_iload_n C dX1_transpose_24 rfl ?_
        refine x_iload_n C dX1_transpose_25 rfl ?_
        refine x_callS C dX1_transpose_26 (ctX1_cellOf _ _) okX1_cellOf lkX1_28 ⟨by decide, rfl, rfl, Nat.le_of_ble_eq_true rfl⟩ rfl (Or.inl ⟨rfl, rfl⟩) ?_
        refine x_callS C dX1_transpose_29 (ctX1_swap hE (by omega) (by decide) _ _ (by omega) (by omega)) okX1_swap lkX1_111 ⟨by decide, rfl, rfl, Nat.le_of_ble_eq_true rfl⟩ rfl (Or.inl ⟨rfl, rfl⟩) ?_
        rw [sM_e, ztp_s e (by omega) (by omega)]
        refine x_iinc C dX1_transpose_32 rfl (by decide) ?_
        refine x_goto (tgt := 10) C dX1_transpose_35 (by decide) ?_
        exact ih2 (by omega)
    refine x_iload_n C dX1_transpose_2 rfl ?_
    refine x_bipush C dX1_transpose_3 (by decide) ?_
    refine x_icmp_ge (tgt := 44) C dX1_transpose_5 (by decide) (by omega) (fun c5 => ?_) (fun c5 => ?_)
    · refine x_iconst C dX1_transpose_44 ?_
      refine x_istore_n C dX1_transpose_45 (by decide) ?_
      rw [show i = 16 by omega]
      exact loop3 0 (by omega)
    · refine x_iconst C dX1_transpose_8 ?_
      refine x_istore_n C dX1_transpose_9 (by decide) ?_
      exact loop2 (by omega) 0 (by omega)
  obtain ⟨hM, hE, hT, hh⟩ := hm
  have hm : isM σ n h e t := ⟨hM, hE, hT, hh⟩
  refine x_iconst C dX1_transpose_0 ?_
  refine x_istore_n C dX1_transpose_1 (by decide) ?_
  have l0 := loop 0 (by omega)
  rw [show ((0 : Nat) : Int) = 0 from rfl, ztp_0, sM_self hm] at l0
  exact l0
end
