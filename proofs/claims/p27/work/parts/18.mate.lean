theorem zsp_at (e : Int → Int) {row col q i k : Int} (v : Int → Int) (hc : 0 ≤ col ∧ 0 ≤ k ∧ k < q ∧ col + q ≤ 16) : zsp e row col q i k v ((row + i) * 16 + (col + k)) = e ((row + i) * 16 + (col + k)) := by
  unfold zsp
  rw [if_neg (by omega)]
theorem zmul99 {a b : Int} (ha : -1000000 ≤ a ∧ a ≤ 1000000) (hb : -99 ≤ b ∧ b ≤ 99) : -99000000 ≤ a * b ∧ a * b ≤ 99000000 := by
  constructor
  · rcases Int.le_total 0 b with h | h
    · have h1 : -1000000 * b ≤ a * b := Int.mul_le_mul_of_nonneg_right ha.1 h
      omega
    · have h1 : 1000000 * b ≤ a * b := Int.mul_le_mul_of_nonpos_right ha.2 h
      omega
  · rcases Int.le_total 0 b with h | h
    · have h1 : a * b ≤ 1000000 * b := Int.mul_le_mul_of_nonneg_right ha.2 h
      omega
    · have h1 : a * b ≤ -1000000 * b := Int.mul_le_mul_of_nonpos_right ha.1 h
      omega
theorem zmulM {a b : Int} (ha : -1000000 ≤ a ∧ a ≤ 1000000) (hb : -1000000 ≤ b ∧ b ≤ 1000000) : -1000000000000 ≤ a * b ∧ a * b ≤ 1000000000000 := by
  constructor
  · rcases Int.le_total 0 b with h | h
    · have h1 : -1000000 * b ≤ a * b := Int.mul_le_mul_of_nonneg_right ha.1 h
      omega
    · have h1 : 1000000 * b ≤ a * b := Int.mul_le_mul_of_nonpos_right ha.2 h
      omega
  · rcases Int.le_total 0 b with h | h
    · have h1 : a * b ≤ 1000000 * b := Int.mul_le_mul_of_nonneg_right ha.2 h
      omega
    · have h1 : a * b ≤ -1000000 * b := Int.mul_le_mul_of_nonpos_right ha.1 h
      omega
def zBd (e : Int → Int) : Prop := ∀ j, -1000000 ≤ e j ∧ e j ≤ 1000000
section
variable {n : Nat} {σ : zS}
theorem ctX1_setThin {h a1 a2 : Int} {e t u v : Int → Int} (hm : isM σ n h e t) (hu : σ a1 = zA 16 u) (hv : σ a2 = zA 16 v) (ha : (0 < a1 ∧ a1 ≤ n) ∧ (0 < a2 ∧ a2 ≤ n) ∧ (a1 < h ∨ h + 2 < a1) ∧ (a2 < h ∨ h + 2 < a2)) (d row col : Int) (hd : 0 ≤ d ∧ d ≤ 3) (hr : 0 ≤ row ∧ row + zsz d ≤ 16) (hc : 0 ≤ col ∧ col + zsz d ≤ 16) : zCt 3 0 0 yX1_setThin cX1_setThin 9 none [zr h, zi d, zi row, zi col, zr a1, zr a2] n σ none n (sM σ h (zsq e row col (zsz d) (fun j => u (j / 16 - row) * v (j % 16 - col))) (zu t (zno d row col) 2)) := by
  obtain ⟨q, hq, hq2, hq16⟩ := zszN hd
  rw [hq] at hr hc ⊢
  refine zCt.of (by decide) rfl (Nat.le_of_ble_eq_true rfl) (fun K C => ?_)
  have loop : ∀ i : Nat, i ≤ q → K 17 [some (zr h), some (zi d), some (zi row), some (zi col), some (zr a1), some (zr a2), some (zi (q : Int)), some (zi (i : Int)), none] [] n (sM σ h (zsp e row col q i 0 (fun j => u (j / 16 - row) * v (j % 16 - col))) (zu t (zno d row col) 2)) 0 := by
    refine zloop _ q (fun i hi ih => ?_)
    have loop2 : i < q → ∀ k : Nat, k ≤ q → K 35 [some (zr h), some (zi d), some (zi row), some (zi col), some (zr a1), some (zr a2), some (zi (q : Int)), some (zi (i : Int)), some (zi (k : Int))] [] n (sM σ h (zsp e row col q i k (fun j => u (j / 16 - row) * v (j % 16 - col))) (zu t (zno d row col) 2)) 0 := by
      intro hi2
      refine zloop _ q (fun k hk ih2 => ?_)
      obtain ⟨hM, hE, hT, hh⟩ := isM_s hm (zsp e row col q i k (fun j => u (j / 16 - row) * v (j % 16 - col))) (zu t (zno d row col) 2)
      have hU := (sM_o σ (zsp e row col q i k (fun j => u (j / 16 - row) * v (j % 16 - col))) (zu t (zno d row col) 2) (h := h) (k := a1) (by omega)).trans hu
      have hV := (sM_o σ (zsp e row col q i k (fun j => u (j / 16 - row) * v (j % 16 - col))) (zu t (zno d row col) 2) (h := h) (k := a2) (by omega)).trans hv
      refine x_iload C dX1_setThin_35 rfl ?_
      refine x_iload C dX1_setThin_37 rfl ?_
      refine x_icmp_ge (tgt := 83) C dX1_setThin_39 (by decide) (by omega) (fun c39 => ?_) (fun c39 => ?_)
      · refine x_iinc C dX1_setThin_83 rfl (by decide) ?_
        refine x_goto (tgt := 17) C dX1_setThin_86 (by decide) ?_
        rw [show k = q by omega, zsp_r e (by omega)]
        refine x_weak C (Lo' := [some (zr h), some (zi d), some (zi row), some (zi col), some (zr a1), some (zr a2), some (zi (q : Int)), some (zi ((i + 1 : Nat) : Int)), none]) (fun j u hj => by match j, hj with | 0, hj => exact hj | 1, hj => exact hj | 2, hj => exact hj | 3, hj => exact hj | 4, hj => exact hj | 5, hj => exact hj | 6, hj => exact hj | 7, hj => exact hj | j + 9, hj => exact absurd hj (by simp [zg])) ?_
        exact ih (by omega)
      · refine x_iload C dX1_setThin_42 rfl ?_
        refine x_aload C dX1_setThin_44 rfl ?_
        refine x_alen0 C dX1_setThin_46 hV (by omega) ?_
        refine x_icmp_ge (tgt := 83) C dX1_setThin_47 (by decide) (by omega) (fun c47 => ?_) (fun c47 => ?_)
        · exact absurd c47 (by omega)
        · refine x_aload_n C dX1_setThin_50 rfl ?_
          refine x_getfield C dX1_setThin_51 lfX1_9 hM (by omega) rfl ?_
          refine x_iload_n C dX1_setThin_54 rfl ?_
          refine x_iload C dX1_setThin_55 rfl ?_
          refine x_iadd C dX1_setThin_57 ?_
          refine x_iload_n C dX1_setThin_58 rfl ?_
          refine x_iload C dX1_setThin_59 rfl ?_
          refine x_iadd C dX1_setThin_61 ?_
          refine x_callS C dX1_setThin_62 (ctX1_cellOf _ _) okX1_cellOf lkX1_28 ⟨by decide, rfl, rfl, Nat.le_of_ble_eq_true rfl⟩ rfl (Or.inl ⟨rfl, rfl⟩) ?_
          refine x_aload C dX1_setThin_65 rfl ?_
          refine x_iload C dX1_setThin_67 rfl ?_
          refine x_iaload C dX1_setThin_69 hU (by omega) ?_
          refine x_aload C dX1_setThin_70 rfl ?_
          refine x_iload C dX1_setThin_72 rfl ?_
          refine x_iaload C dX1_setThin_74 hV (by omega) ?_
          refine x_imul C dX1_setThin_75 ?_
          refine x_iastore C dX1_setThin_76 hE (by omega) ?_
          rw [sM_e, zsp_s e (fun j => u (j / 16 - row) * v (j % 16 - col)) (by omega) (by show _ = u _ * v _; rw [show ((row + (i : Int)) * 16 + (col + (k : Int))) / 16 - row = i by omega, show ((row + (i : Int)) * 16 + (col + (k : Int))) % 16 - col = k by omega])]
          refine x_iinc C dX1_setThin_77 rfl (by decide) ?_
          refine x_goto (tgt := 35) C dX1_setThin_80 (by decide) ?_
          exact ih2 (by omega)
    have hU := (sM_o σ (zsp e row col q i 0 (fun j => u (j / 16 - row) * v (j % 16 - col))) (zu t (zno d row col) 2) (h := h) (k := a1) (by omega)).trans hu
    refine x_iload C dX1_setThin_17 rfl ?_
    refine x_iload C dX1_setThin_19 rfl ?_
    refine x_icmp_ge (tgt := 89) C dX1_setThin_21 (by decide) (by omega) (fun c21 => ?_) (fun c21 => ?_)
    · exact x_vret (st := []) C dX1_setThin_89 rfl ⟨rfl, rfl, by rw [show i = q by omega, zsp_e], rfl⟩
    · refine x_iload C dX1_setThin_24 rfl ?_
      refine x_aload C dX1_setThin_26 rfl ?_
      refine x_alen0 C dX1_setThin_28 hU (by omega) ?_
      refine x_icmp_ge (tgt := 89) C dX1_setThin_29 (by decide) (by omega) (fun c29 => ?_) (fun c29 => ?_)
      · exact absurd c29 (by omega)
      · refine x_iconst C dX1_setThin_32 ?_
        refine x_istore C dX1_setThin_33 (by decide) ?_
        exact loop2 (by omega) 0 (by omega)
  obtain ⟨hM, hE, hT, hh⟩ := hm
  have hm : isM σ n h e t := ⟨hM, hE, hT, hh⟩
  refine x_aload_n C dX1_setThin_0 rfl ?_
  refine x_iload_n C dX1_setThin_1 rfl ?_
  refine x_iload_n C dX1_setThin_2 rfl ?_
  refine x_iload_n C dX1_setThin_3 rfl ?_
  refine x_iconst C dX1_setThin_4 ?_
  refine x_callV C dX1_setThin_5 (ctX1_setSort2 hm d row col 2 hd (by omega) (by omega)) okX1_setSort lkX1_71 ⟨⟨hM, rfl, rfl⟩, (by omega)⟩ ⟨by decide, rfl, rfl, Nat.le_of_ble_eq_true rfl⟩ rfl (Or.inl ⟨rfl, rfl⟩) ?_
  refine x_iload_n C dX1_setThin_8 rfl ?_
  refine x_callSN C dX1_setThin_9 (ctX5_sizeAt d hd) okX5_sizeAt nkX1_24 ⟨by decide, rfl, rfl, Nat.le_of_ble_eq_true rfl⟩ rfl (Or.inl ⟨rfl, rfl⟩) ?_
  refine x_istore C dX1_setThin_12 (by decide) ?_
  refine x_iconst C dX1_setThin_14 ?_
  refine x_istore C dX1_setThin_15 (by decide) ?_
  rw [hq]
  have l0 := loop 0 (by omega)
  rw [show ((0 : Nat) : Int) = 0 from rfl, zsp_0] at l0
  exact l0
theorem ctX1_setFull {h a1 : Int} {e t u : Int → Int} (hm : isM σ n h e t) (hu : σ a1 = zA 256 u) (ha : (0 < a1 ∧ a1 ≤ n) ∧ (a1 < h ∨ h + 2 < a1)) (d row col : Int) (hd : 0 ≤ d ∧ d ≤ 3) (hr : 0 ≤ row ∧ row + zsz d ≤ 16) (hc : 0 ≤ col ∧ col + zsz d ≤ 16) : zCt 3 0 0 yX1_setFull cX1_setFull 8 none [zr h, zi d, zi row, zi col, zr a1] n σ none n (sM σ h (zsq e row col (zsz d) (fun j => u ((j / 16 - row) * zsz d + (j % 16 - col)))) (zu t (zno d row col) 1)) := by
  obtain ⟨q, hq, hq2, hq16⟩ := zszN hd
  rw [hq] at hr hc ⊢
  refine zCt.of (by decide) rfl (Nat.le_of_ble_eq_true rfl) (fun K C => ?_)
  have loop : ∀ i : Nat, i ≤ q → K 17 [some (zr h), some (zi d), some (zi row), some (zi col), some (zr a1), some (zi (q : Int)), some (zi (i : Int)), none] [] n (sM σ h (zsp e row col q i 0 (fun j => u ((j / 16 - row) * q + (j % 16 - col)))) (zu t (zno d row col) 1)) 0 := by
    refine zloop _ q (fun i hi ih => ?_)
    have loop2 : i < q → ∀ k : Nat, k ≤ q → K 27 [some (zr h), some (zi d), some (zi row), some (zi col), some (zr a1), some (zi (q : Int)), some (zi (i : Int)), some (zi (k : Int))] [] n (sM σ h (zsp e row col q i k (fun j => u ((j / 16 - row) * q + (j % 16 - col)))) (zu t (zno d row col) 1)) 0 := by
      intro hi2
      refine zloop _ q (fun k hk ih2 => ?_)
      obtain ⟨hM, hE, hT, hh⟩ := isM_s hm (zsp e row col q i k (fun j => u ((j / 16 - row) * q + (j % 16 - col)))) (zu t (zno d row col) 1)
      have hU := (sM_o σ (zsp e row col q i k (fun j => u ((j / 16 - row) * q + (j % 16 - col)))) (zu t (zno d row col) 1) (h := h) (k := a1) (by omega)).trans hu
      refine x_iload C dX1_setFull_27 rfl ?_
      refine x_iload C dX1_setFull_29 rfl ?_
      refine x_icmp_ge (tgt := 81) C dX1_setFull_31 (by decide) (by omega) (fun c31 => ?_) (fun c31 => ?_)
      · refine x_iinc C dX1_setFull_81 rfl (by decide) ?_
        refine x_goto (tgt := 17) C dX1_setFull_84 (by decide) ?_
        rw [show k = q by omega, zsp_r e (by omega)]
        refine x_weak C (Lo' := [some (zr h), some (zi d), some (zi row), some (zi col), some (zr a1), some (zi (q : Int)), some (zi ((i + 1 : Nat) : Int)), none]) (fun j u hj => by match j, hj with | 0, hj => exact hj | 1, hj => exact hj | 2, hj => exact hj | 3, hj => exact hj | 4, hj => exact hj | 5, hj => exact hj | 6, hj => exact hj | j + 8, hj => exact absurd hj (by simp [zg])) ?_
        exact ih (by omega)
      · have hb := zmul16 (i := i) (k := k) (q := q) (by omega) (by omega) (by omega)
        refine x_iload C dX1_setFull_34 rfl ?_
        refine x_iload C dX1_setFull_36 rfl ?_
        refine x_imul C dX1_setFull_38 ?_
        refine x_iload C dX1_setFull_39 rfl ?_
        refine x_iadd C dX1_setFull_41 ?_
        refine x_aload C dX1_setFull_42 rfl ?_
        refine x_alen0 C dX1_setFull_44 hU (by omega) ?_
        refine x_icmp_ge (tgt := 81) C dX1_setFull_45 (by decide) (by omega) (fun c45 => ?_) (fun c45 => ?_)
        · exact absurd c45 (by omega)
        · refine x_aload_n C dX1_setFull_48 rfl ?_
          refine x_getfield C dX1_setFull_49 lfX1_9 hM (by omega) rfl ?_
          refine x_iload_n C dX1_setFull_52 rfl ?_
          refine x_iload C dX1_setFull_53 rfl ?_
          refine x_iadd C dX1_setFull_55 ?_
          refine x_iload_n C dX1_setFull_56 rfl ?_
          refine x_iload C dX1_setFull_57 rfl ?_
          refine x_iadd C dX1_setFull_59 ?_
          refine x_callS C dX1_setFull_60 (ctX1_cellOf _ _) okX1_cellOf lkX1_28 ⟨by decide, rfl, rfl, Nat.le_of_ble_eq_true rfl⟩ rfl (Or.inl ⟨rfl, rfl⟩) ?_
          refine x_aload C dX1_setFull_63 rfl ?_
          refine x_iload C dX1_setFull_65 rfl ?_
          refine x_iload C dX1_setFull_67 rfl ?_
          refine x_imul C dX1_setFull_69 ?_
          refine x_iload C dX1_setFull_70 rfl ?_
          refine x_iadd C dX1_setFull_72 ?_
          refine x_iaload C dX1_setFull_73 hU (by omega) ?_
          refine x_iastore C dX1_setFull_74 hE (by omega) ?_
          rw [sM_e, zsp_s e (fun j => u ((j / 16 - row) * q + (j % 16 - col))) (by omega) (by show _ = u (_ * (q : Int) + _); rw [show ((row + (i : Int)) * 16 + (col + (k : Int))) / 16 - row = i by omega, show ((row + (i : Int)) * 16 + (col + (k : Int))) % 16 - col = k by omega])]
          refine x_iinc C dX1_setFull_75 rfl (by decide) ?_
          refine x_goto (tgt := 27) C dX1_setFull_78 (by decide) ?_
          exact ih2 (by omega)
    refine x_iload C dX1_setFull_17 rfl ?_
    refine x_iload C dX1_setFull_19 rfl ?_
    refine x_icmp_ge (tgt := 87) C dX1_setFull_21 (by decide) (by omega) (fun c21 => ?_) (fun c21 => ?_)
    · exact x_vret (st := []) C dX1_setFull_87 rfl ⟨rfl, rfl, by rw [show i = q by omega, zsp_e], rfl⟩
    · refine x_iconst C dX1_setFull_24 ?_
      refine x_istore C dX1_setFull_25 (by decide) ?_
      exact loop2 (by omega) 0 (by omega)
  obtain ⟨hM, hE, hT, hh⟩ := hm
  have hm : isM σ n h e t := ⟨hM, hE, hT, hh⟩
  refine x_aload_n C dX1_setFull_0 rfl ?_
  refine x_iload_n C dX1_setFull_1 rfl ?_
  refine x_iload_n C dX1_setFull_2 rfl ?_
  refine x_iload_n C dX1_setFull_3 rfl ?_
  refine x_iconst C dX1_setFull_4 ?_
  refine x_callV C dX1_setFull_5 (ctX1_setSort2 hm d row col 1 hd (by omega) (by omega)) okX1_setSort lkX1_71 ⟨⟨hM, rfl, rfl⟩, (by omega)⟩ ⟨by decide, rfl, rfl, Nat.le_of_ble_eq_true rfl⟩ rfl (Or.inl ⟨rfl, rfl⟩) ?_
  refine x_iload_n C dX1_setFull_8 rfl ?_
  refine x_callSN C dX1_setFull_9 (ctX5_sizeAt d hd) okX5_sizeAt nkX1_24 ⟨by decide, rfl, rfl, Nat.le_of_ble_eq_true rfl⟩ rfl (Or.inl ⟨rfl, rfl⟩) ?_
  refine x_istore C dX1_setFull_12 (by decide) ?_
  refine x_iconst C dX1_setFull_14 ?_
  refine x_istore C dX1_setFull_15 (by decide) ?_
  rw [hq]
  have l0 := loop 0 (by omega)
  rw [show ((0 : Nat) : Int) = 0 from rfl, zsp_0] at l0
  exact l0
def zclp (x : Int) : Int := max (-1000000) (min 1000000 x)
theorem ctX1_joinEntries {h h2 : Int} {e t e2 t2 : Int → Int} (hm : isM σ n h e t) (hm2 : isM σ n h2 e2 t2) (hd2 : h2 + 2 < h ∨ h + 2 < h2) (he : zBd e) (he2 : zBd e2) (x d row col : Int) (hx : -99 ≤ x ∧ x ≤ 99) (hd : 0 ≤ d ∧ d ≤ 3) (hr : 0 ≤ row ∧ row + zsz d ≤ 16) (hc : 0 ≤ col ∧ col + zsz d ≤ 16) : zCt 3 0 0 yX1_joinEntries cX1_joinEntries 11 none [zr h, zr h2, zi x, zi d, zi row, zi col] n σ none n (sM σ h (zsq e row col (zsz d) (fun j => zclp (e j + e2 j * x))) (zu t (zno d row col) 1)) := by
  obtain ⟨q, hq, hq2, hq16⟩ := zszN hd
  rw [hq] at hr hc ⊢
  refine zCt.of (by decide) rfl (Nat.le_of_ble_eq_true rfl) (fun K C => ?_)
  have loop : ∀ i : Nat, i ≤ q → K 19 [some (zr h), some (zr h2), some (zi x), some (zi d), some (zi row), some (zi col), some (zi (q : Int)), some (zi (i : Int)), none, none, none] [] n (sM σ h (zsp e row col q i 0 (fun j => zclp (e j + e2 j * x))) (zu t (zno d row col) 1)) 0 := by
    refine zloop _ q (fun i hi ih => ?_)
    have loop2 : i < q → ∀ k : Nat, k ≤ q → K 29 [some (zr h), some (zr h2), some (zi x), some (zi d), some (zi row), some (zi col), some (zi (q : Int)), some (zi (i : Int)), some (zi (k : Int)), none, none] [] n (sM σ h (zsp e row col q i k (fun j => zclp (e j + e2 j * x))) (zu t (zno d row col) 1)) 0 := by
      intro hi2
      refine zloop _ q (fun k hk ih2 => ?_)
      obtain ⟨hM, hE, hT, hh⟩ := isM_s hm (zsp e row col q i k (fun j => zclp (e j + e2 j * x))) (zu t (zno d row col) 1)
      obtain ⟨hM2, hE2, hT2, hh2⟩ := isM_o hm2 hd2 (zsp e row col q i k (fun j => zclp (e j + e2 j * x))) (zu t (zno d row col) 1)
      refine x_iload C dX1_joinEntries_29 rfl ?_
      refine x_iload C dX1_joinEntries_31 rfl ?_
      refine x_icmp_ge (tgt := 95) C dX1_joinEntries_33 (by decide) (by omega) (fun c33 => ?_) (fun c33 => ?_)
      · refine x_iinc C dX1_joinEntries_95 rfl (by decide) ?_
        refine x_goto (tgt := 19) C dX1_joinEntries_98 (by decide) ?_
        rw [show k = q by omega, zsp_r e (by omega)]
        refine x_weak C (Lo' := [some (zr h), some (zr h2), some (zi x), some (zi d), some (zi row), some (zi col), some (zi (q : Int)), some (zi ((i + 1 : Nat) : Int)), none, none, none]) (fun j u hj => by match j, hj with | 0, hj => exact hj | 1, hj => exact hj | 2, hj => exact hj | 3, hj => exact hj | 4, hj => exact hj | 5, hj => exact hj | 6, hj => exact hj | 7, hj => exact hj | j + 11, hj => exact absurd hj (by simp [zg])) ?_
        exact ih (by omega)
      · have hat := zsp_at e (row := row) (col := col) (q := q) (i := i) (k := k) (fun j => zclp (e j + e2 j * x)) (by omega)
        have hb1 := he ((row + i) * 16 + (col + k))
        have hb2 := zmul99 (he2 ((row + i) * 16 + (col + k))) hx
        refine x_iload C dX1_joinEntries_36 rfl ?_
        refine x_iload C dX1_joinEntries_38 rfl ?_
        refine x_iadd C dX1_joinEntries_40 ?_
        refine x_iload C dX1_joinEntries_41 rfl ?_
        refine x_iload C dX1_joinEntries_43 rfl ?_
        refine x_iadd C dX1_joinEntries_45 ?_
        refine x_callS C dX1_joinEntries_46 (ctX1_cellOf _ _) okX1_cellOf lkX1_28 ⟨by decide, rfl, rfl, Nat.le_of_ble_eq_true rfl⟩ rfl (Or.inl ⟨rfl, rfl⟩) ?_
        refine x_istore C dX1_joinEntries_49 (by decide) ?_
        refine x_aload_n C dX1_joinEntries_51 rfl ?_
        refine x_getfield C dX1_joinEntries_52 lfX1_9 hM (by omega) rfl ?_
        refine x_iload C dX1_joinEntries_55 rfl ?_
        refine x_iaload C dX1_joinEntries_57 hE (by omega) ?_
        refine x_aload_n C dX1_joinEntries_58 rfl ?_
        refine x_getfield C dX1_joinEntries_59 lfX1_9 hM2 (by omega) rfl ?_
        refine x_iload C dX1_joinEntries_62 rfl ?_
        refine x_iaload C dX1_joinEntries_64 hE2 (by omega) ?_
        refine x_iload_n C dX1_joinEntries_65 rfl ?_
        refine x_imul C dX1_joinEntries_66 ?_
        refine x_iadd C dX1_joinEntries_67 ?_
        refine x_istore C dX1_joinEntries_68 (by decide) ?_
        refine x_aload_n C dX1_joinEntries_70 rfl ?_
        refine x_getfield C dX1_joinEntries_71 lfX1_9 hM (by omega) rfl ?_
        refine x_iload C dX1_joinEntries_74 rfl ?_
        refine x_ldc (v := -1000000) C dX1_joinEntries_76 kcX1_106 (by decide) ?_
        refine x_ldc (v := 1000000) C dX1_joinEntries_78 kcX1_107 (by decide) ?_
        refine x_iload C dX1_joinEntries_80 rfl ?_
        refine x_mmin C dX1_joinEntries_82 lmX1_108 (by decide) (Nat.le_of_ble_eq_true rfl) (by omega) ?_
        refine x_mmax C dX1_joinEntries_85 lmX1_46 (by decide) (Nat.le_of_ble_eq_true rfl) (by omega) ?_
        refine x_iastore C dX1_joinEntries_88 hE (by omega) ?_
        rw [sM_e, zsp_s e (fun j => zclp (e j + e2 j * x)) (by omega) (by rw [hat]; rfl)]
        refine x_iinc C dX1_joinEntries_89 rfl (by decide) ?_
        refine x_goto (tgt := 29) C dX1_joinEntries_92 (by decide) ?_
        refine x_weak C (Lo' := [some (zr h), some (zr h2), some (zi x), some (zi d), some (zi row), some (zi col), some (zi (q : Int)), some (zi (i : Int)), some (zi ((k + 1 : Nat) : Int)), none, none]) (fun j u hj => by match j, hj with | 0, hj => exact hj | 1, hj => exact hj | 2, hj => exact hj | 3, hj => exact hj | 4, hj => exact hj | 5, hj => exact hj | 6, hj => exact hj | 7, hj => exact hj | 8, hj => exact hj | j + 11, hj => exact absurd hj (by simp [zg])) ?_
        exact ih2 (by omega)
    refine x_iload C dX1_joinEntries_19 rfl ?_
    refine x_iload C dX1_joinEntries_21 rfl ?_
    refine x_icmp_ge (tgt := 101) C dX1_joinEntries_23 (by decide) (by omega) (fun c23 => ?_) (fun c23 => ?_)
    · exact x_vret (st := []) C dX1_joinEntries_101 rfl ⟨rfl, rfl, by rw [show i = q by omega, zsp_e], rfl⟩
    · refine x_iconst C dX1_joinEntries_26 ?_
      refine x_istore C dX1_joinEntries_27 (by decide) ?_
      exact loop2 (by omega) 0 (by omega)
  obtain ⟨hM, hE, hT, hh⟩ := hm
  have hm : isM σ n h e t := ⟨hM, hE, hT, hh⟩
  refine x_aload_n C dX1_joinEntries_0 rfl ?_
  refine x_iload_n C dX1_joinEntries_1 rfl ?_
  refine x_iload C dX1_joinEntries_2 rfl ?_
  refine x_iload C dX1_joinEntries_4 rfl ?_
  refine x_iconst C dX1_joinEntries_6 ?_
  refine x_callV C dX1_joinEntries_7 (ctX1_setSort2 hm d row col 1 hd (by omega) (by omega)) okX1_setSort lkX1_71 ⟨⟨hM, rfl, rfl⟩, (by omega)⟩ ⟨by decide, rfl, rfl, Nat.le_of_ble_eq_true rfl⟩ rfl (Or.inl ⟨rfl, rfl⟩) ?_
  refine x_iload_n C dX1_joinEntries_10 rfl ?_
  refine x_callSN C dX1_joinEntries_11 (ctX5_sizeAt d hd) okX5_sizeAt nkX1_24 ⟨by decide, rfl, rfl, Nat.le_of_ble_eq_true rfl⟩ rfl (Or.inl ⟨rfl, rfl⟩) ?_
  refine x_istore C dX1_joinEntries_14 (by decide) ?_
  refine x_iconst C dX1_joinEntries_16 ?_
  refine x_istore C dX1_joinEntries_17 (by decide) ?_
  rw [hq]
  have l0 := loop 0 (by omega)
  rw [show ((0 : Nat) : Int) = 0 from rfl, zsp_0] at l0
  exact l0
theorem ctX1_swap {a : Int} {L : Nat} {f : Int → Int} (hA : σ a = zA L f) (ha : 0 < a ∧ a ≤ n) (hL : (L : Int) < 2147483648) (i j : Int) (hi : 0 ≤ i ∧ i < L) (hj : 0 ≤ j ∧ j < L) : zCt 1 0 0 yX1_swap cX1_swap 4 none [zr a, zi i, zi j] n σ none n (zsu σ a (zA L (zu (zu f i (f j)) j (f i)))) := by
  refine zCt.of (by decide) rfl (Nat.le_of_ble_eq_true rfl) (fun K C => ?_)
  refine x_aload_n C dX1_swap_0 rfl ?_
  refine x_iload_n C dX1_swap_1 rfl ?_
  refine x_iaload C dX1_swap_2 hA (by omega) ?_
  refine x_istore_n C dX1_swap_3 (by decide) ?_
  refine x_aload_n C dX1_swap_4 rfl ?_
  refine x_iload_n C dX1_swap_5 rfl ?_
  refine x_aload_n C dX1_swap_6 rfl ?_
  refine x_iload_n C dX1_swap_7 rfl ?_
  refine x_iaload C dX1_swap_8 hA (by omega) ?_
  refine x_iastore C dX1_swap_9 hA (by omega) ?_
  refine x_nm (fun s9 e9 => ?_)
  have hA := (congrFun e9 a).trans (zsu_s _ _ _)
  refine x_aload_n C dX1_swap_10 rfl ?_
  refine x_iload_n C dX1_swap_11 rfl ?_
  refine x_iload_n C dX1_swap_12 rfl ?_
  refine x_iastore C dX1_swap_13 hA (by omega) ?_
  refine x_nm (fun s13 e13 => ?_)
  have hA := (congrFun e13 a).trans (zsu_s _ _ _)
  exact x_vret (st := []) C dX1_swap_14 rfl ⟨rfl, rfl, by rw [e13, e9, zsu_u], rfl⟩
end
