/-! THE MODEL: its object is cell 145, its rows are 146 to 155 -/
abbrev zMO (um L p : Int) (wl : Bool) (lv br bc : Int) : zC := zO 6 [zi 0, zr 146, zr 147, zr 148, zi um, zr 149, zr 150, zr 151, zi L, zi p, zi (zb wl), zr 152, zr 153, zr 154, zi lv, zi br, zi bc, zr 155]
def zp2 (d : Int) : Int := if d = 0 then 1 else if d = 1 then 2 else if d = 2 then 4 else 8
def zmn (d r c : Int) : Int := (if d = 0 then 0 else if d = 1 then 1 else if d = 2 then 5 else 21) + r * zp2 d + c
def zsE (S : Int → Int) (m j : Int) : Int := S (341 * m + 85 + j)
def zsT (S : Int → Int) (m k : Int) : Int := S (341 * m + k)
theorem zmn_no (d row col : Int) : zno d row col = zmn d (row / zsz d) (col / zsz d) := rfl
theorem zp2_v {d : Int} (h : 0 ≤ d ∧ d ≤ 3) : (d = 0 ∧ zp2 d = 1) ∨ (d = 1 ∧ zp2 d = 2) ∨ (d = 2 ∧ zp2 d = 4) ∨ (d = 3 ∧ zp2 d = 8) := by
  have h3 : d = 0 ∨ d = 1 ∨ d = 2 ∨ d = 3 := by omega
  rcases h3 with rfl | rfl | rfl | rfl <;> decide
theorem zp2_e {d : Int} (h : 0 ≤ d ∧ d ≤ 3) : (2 : Int) ^ d.toNat = zp2 d := by
  have h3 : d = 0 ∨ d = 1 ∨ d = 2 ∨ d = 3 := by omega
  rcases h3 with rfl | rfl | rfl | rfl <;> decide
theorem zsz_p2 {d : Int} (h : 0 ≤ d ∧ d ≤ 3) : zsz d * zp2 d = 16 := by
  have h3 : d = 0 ∨ d = 1 ∨ d = 2 ∨ d = 3 := by omega
  rcases h3 with rfl | rfl | rfl | rfl <;> decide
theorem zsz_e {d : Int} (h : 0 ≤ d ∧ d ≤ 3) : (16 : Int) / 2 ^ d.toNat = zsz d := by
  have h3 : d = 0 ∨ d = 1 ∨ d = 2 ∨ d = 3 := by omega
  rcases h3 with rfl | rfl | rfl | rfl <;> decide
theorem zmn_in {d r c : Int} (hd : 0 ≤ d ∧ d ≤ 3) (hr : 0 ≤ r ∧ r < zp2 d) (hc : 0 ≤ c ∧ c < zp2 d) : 0 ≤ zmn d r c ∧ zmn d r c < 85 := by
  have h3 : d = 0 ∨ d = 1 ∨ d = 2 ∨ d = 3 := by omega
  rcases h3 with rfl | rfl | rfl | rfl <;> simp [zp2, zmn] at * <;> omega
/-- the model's memory, so far as most of its methods see it -/
def isMo (σ : zS) (n : Nat) (S : Int → Int) : Prop := (∃ (um L p : Int) (wl : Bool) (lv br bc : Int), σ 145 = zMO um L p wl lv br bc) ∧ σ 146 = zA 1365 S ∧ 155 ≤ n
theorem isMo.s {σ : zS} {n : Nat} {S : Int → Int} (h : isMo σ n S) (S2 : Int → Int) : isMo (zsu σ 146 (zA 1365 S2)) n S2 := by
  obtain ⟨⟨um, L, p, wl, lv, br, bc, h1⟩, h2, h3⟩ := h
  exact ⟨⟨um, L, p, wl, lv, br, bc, (zsu_n _ _ (by decide)).trans h1⟩, zsu_s _ _ _, h3⟩
theorem isMo.o {σ : zS} {n : Nat} {S : Int → Int} (h : isMo σ n S) {k : Int} (hk : k ≠ 145 ∧ k ≠ 146) (c : zC) : isMo (zsu σ k c) n S := by
  obtain ⟨⟨um, L, p, wl, lv, br, bc, h1⟩, h2, h3⟩ := h
  exact ⟨⟨um, L, p, wl, lv, br, bc, (zsu_n _ _ (by omega)).trans h1⟩, (zsu_n _ _ (by omega)).trans h2, h3⟩
section
variable {n : Nat} {σ : zS} {S : Int → Int}
theorem ctX6_in (x a b : Int) (hx : -2147483648 ≤ x ∧ x < 2147483648) (ha : -2147483648 ≤ a ∧ a < 2147483648) (hb : -2147483648 ≤ b ∧ b < 2147483648) : zCt 1 0 0 yX6_in cX6_in 3 (some .boolean) [zi x, zi a, zi b] n σ (some (zi (zb (decide (a ≤ x ∧ x ≤ b))))) n σ := by
  refine zCt.of (by decide) rfl (Nat.le_of_ble_eq_true rfl) (fun K C => ?_)
  refine x_iload_n C dX6_in_0 rfl ?_
  refine x_iload_n C dX6_in_1 rfl ?_
  refine x_icmp_lt (tgt := 14) C dX6_in_2 (by decide) (by omega) (fun c2 => ?_) (fun c2 => ?_)
  · refine x_iconst C dX6_in_14 ?_
    exact x_zret (st := []) (b := false) C dX6_in_15 rfl ⟨congrArg (fun z => some (zi (zb z))) (decide_eq_false (by omega)).symm, rfl, rfl, rfl⟩
  · refine x_iload_n C dX6_in_5 rfl ?_
    refine x_iload_n C dX6_in_6 rfl ?_
    refine x_icmp_gt (tgt := 14) C dX6_in_7 (by decide) (by omega) (fun c7 => ?_) (fun c7 => ?_)
    · refine x_iconst C dX6_in_14 ?_
      exact x_zret (st := []) (b := false) C dX6_in_15 rfl ⟨congrArg (fun z => some (zi (zb z))) (decide_eq_false (by omega)).symm, rfl, rfl, rfl⟩
    · refine x_iconst C dX6_in_10 ?_
      refine x_goto (tgt := 15) C dX6_in_11 (by decide) ?_
      exact x_zret (st := []) (b := true) C dX6_in_15 rfl ⟨congrArg (fun z => some (zi (zb z))) (decide_eq_true (by omega)).symm, rfl, rfl, rfl⟩
theorem ctX6_isMatrix (m : Int) (hm : -2147483648 ≤ m ∧ m < 2147483648) : zCt 2 0 0 yX6_isMatrix cX6_isMatrix 1 (some .boolean) [zi m] n σ (some (zi (zb (decide (0 ≤ m ∧ m < 4))))) n σ := by
  refine zCt.of (by decide) rfl (Nat.le_of_ble_eq_true rfl) (fun K C => ?_)
  refine x_iload_n C dX6_isMatrix_0 rfl ?_
  refine x_iconst C dX6_isMatrix_1 ?_
  refine x_iconst C dX6_isMatrix_2 ?_
  refine x_callS C dX6_isMatrix_3 (ctX6_in m 0 3 hm (by decide) (by decide)) okX6_in lkX6_45 ⟨by decide, rfl, rfl, Nat.le_of_ble_eq_true rfl⟩ rfl (Or.inl ⟨rfl, rfl⟩) ?_
  exact x_zret (st := []) C dX6_isMatrix_6 rfl ⟨congrArg (fun z => some (zi (zb z))) (decide_eq_decide.mpr (by omega)), rfl, rfl, rfl⟩
theorem ctX6_isPlace (r c : Int) (hr : -2147483648 ≤ r ∧ r < 2147483648) (hc : -2147483648 ≤ c ∧ c < 2147483648) : zCt 2 0 0 yX6_isPlace cX6_isPlace 2 (some .boolean) [zi r, zi c] n σ (some (zi (zb (decide ((0 ≤ r ∧ r < 16) ∧ 0 ≤ c ∧ c < 16))))) n σ := by
  refine zCt.of (by decide) rfl (Nat.le_of_ble_eq_true rfl) (fun K C => ?_)
  refine x_iload_n C dX6_isPlace_0 rfl ?_
  refine x_iconst C dX6_isPlace_1 ?_
  refine x_bipush C dX6_isPlace_2 (by decide) ?_
  refine x_callS C dX6_isPlace_4 (ctX6_in r 0 15 hr (by decide) (by decide)) okX6_in lkX6_45 ⟨by decide, rfl, rfl, Nat.le_of_ble_eq_true rfl⟩ rfl (Or.inl ⟨rfl, rfl⟩) ?_
  refine x_ifeq_d (tgt := 24) C dX6_isPlace_7 (by decide) (fun c7 => ?_) (fun c7 => ?_)
  · refine x_iconst C dX6_isPlace_24 ?_
    exact x_zret (st := []) (b := false) C dX6_isPlace_25 rfl ⟨congrArg (fun z => some (zi (zb z))) (decide_eq_false (by omega)).symm, rfl, rfl, rfl⟩
  · refine x_iload_n C dX6_isPlace_10 rfl ?_
    refine x_iconst C dX6_isPlace_11 ?_
    refine x_bipush C dX6_isPlace_12 (by decide) ?_
    refine x_callS C dX6_isPlace_14 (ctX6_in c 0 15 hc (by decide) (by decide)) okX6_in lkX6_45 ⟨by decide, rfl, rfl, Nat.le_of_ble_eq_true rfl⟩ rfl (Or.inl ⟨rfl, rfl⟩) ?_
    refine x_ifeq_d (tgt := 24) C dX6_isPlace_17 (by decide) (fun c17 => ?_) (fun c17 => ?_)
    · refine x_iconst C dX6_isPlace_24 ?_
      exact x_zret (st := []) (b := false) C dX6_isPlace_25 rfl ⟨congrArg (fun z => some (zi (zb z))) (decide_eq_false (by omega)).symm, rfl, rfl, rfl⟩
    · refine x_iconst C dX6_isPlace_20 ?_
      refine x_goto (tgt := 25) C dX6_isPlace_21 (by decide) ?_
      exact x_zret (st := []) (b := true) C dX6_isPlace_25 rfl ⟨congrArg (fun z => some (zi (zb z))) (decide_eq_true (by omega)).symm, rfl, rfl, rfl⟩
theorem ctX6_sizeAt (d : Int) (hd : 0 ≤ d ∧ d ≤ 3) : zCt 1 0 0 yX6_sizeAt cX6_sizeAt 1 (some .int) [zi d] n σ (some (zi (zsz d))) n σ := by
  refine zCt.of (by decide) rfl (Nat.le_of_ble_eq_true rfl) (fun K C => ?_)
  refine x_bipush C dX6_sizeAt_0 (by decide) ?_
  refine x_iload_n C dX6_sizeAt_2 rfl ?_
  refine x_ishr C dX6_sizeAt_3 (by omega) ?_
  exact x_iret (st := []) C dX6_sizeAt_4 rfl ⟨congrArg (fun z => some (zi z)) (zsz_e hd), rfl, rfl, rfl⟩
theorem ctX6_node (d r c : Int) (hd : 0 ≤ d ∧ d ≤ 3) : zCt 1 0 0 yX6_node cX6_node 4 (some .int) [zi d, zi r, zi c] n σ (some (zi (zmn d r c))) n σ := by
  refine zCt.of (by decide) rfl (Nat.le_of_ble_eq_true rfl) (fun K C => ?_)
  refine x_iload_n C dX6_node_0 rfl ?_
  refine x_if_ne (tgt := 8) C dX6_node_1 (by decide) (by omega) (fun c1 => ?_) (fun c1 => ?_)
  · refine x_iload_n C dX6_node_8 rfl ?_
    refine x_iconst C dX6_node_9 ?_
    refine x_icmp_ne (tgt := 17) C dX6_node_10 (by decide) (by omega) (fun c10 => ?_) (fun c10 => ?_)
    · refine x_iload_n C dX6_node_17 rfl ?_
      refine x_iconst C dX6_node_18 ?_
      refine x_icmp_ne (tgt := 26) C dX6_node_19 (by decide) (by omega) (fun c19 => ?_) (fun c19 => ?_)
      · refine x_bipush C dX6_node_26 (by decide) ?_
        refine x_istore_n C dX6_node_28 (by decide) ?_
        refine x_iload_n C dX6_node_29 rfl ?_
        refine x_iload_n C dX6_node_30 rfl ?_
        refine x_iload_n C dX6_node_31 rfl ?_
        refine x_ishl C dX6_node_32 (by omega) ?_
        refine x_iadd C dX6_node_33 ?_
        refine x_iload_n C dX6_node_34 rfl ?_
        refine x_iadd C dX6_node_35 ?_
        exact x_iret (st := []) C dX6_node_36 rfl ⟨congrArg (fun z => some (zi z)) (by rw [zp2_e hd, zmn]; first | rw [if_pos (by omega)] | rw [if_neg (by omega), if_pos (by omega)] | rw [if_neg (by omega), if_neg (by omega), if_pos (by omega)] | rw [if_neg (by omega), if_neg (by omega), if_neg (by omega)]), rfl, rfl, rfl⟩
      · refine x_iconst C dX6_node_22 ?_
        refine x_goto (tgt := 28) C dX6_node_23 (by decide) ?_
        refine x_istore_n C dX6_node_28 (by decide) ?_
        refine x_iload_n C dX6_node_29 rfl ?_
        refine x_iload_n C dX6_node_30 rfl ?_
        refine x_iload_n C dX6_node_31 rfl ?_
        refine x_ishl C dX6_node_32 (by omega) ?_
        refine x_iadd C dX6_node_33 ?_
        refine x_iload_n C dX6_node_34 rfl ?_
        refine x_iadd C dX6_node_35 ?_
        exact x_iret (st := []) C dX6_node_36 rfl ⟨congrArg (fun z => some (zi z)) (by rw [zp2_e hd, zmn]; first | rw [if_pos (by omega)] | rw [if_neg (by omega), if_pos (by omega)] | rw [if_neg (by omega), if_neg (by omega), if_pos (by omega)] | rw [if_neg (by omega), if_neg (by omega), if_neg (by omega)]), rfl, rfl, rfl⟩
    · refine x_iconst C dX6_node_13 ?_
      refine x_goto (tgt := 28) C dX6_node_14 (by decide) ?_
      refine x_istore_n C dX6_node_28 (by decide) ?_
      refine x_iload_n C dX6_node_29 rfl ?_
      refine x_iload_n C dX6_node_30 rfl ?_
      refine x_iload_n C dX6_node_31 rfl ?_
      refine x_ishl C dX6_node_32 (by omega) ?_
      refine x_iadd C dX6_node_33 ?_
      refine x_iload_n C dX6_node_34 rfl ?_
      refine x_iadd C dX6_node_35 ?_
      exact x_iret (st := []) C dX6_node_36 rfl ⟨congrArg (fun z => some (zi z)) (by rw [zp2_e hd, zmn]; first | rw [if_pos (by omega)] | rw [if_neg (by omega), if_pos (by omega)] | rw [if_neg (by omega), if_neg (by omega), if_pos (by omega)] | rw [if_neg (by omega), if_neg (by omega), if_neg (by omega)]), rfl, rfl, rfl⟩
  · refine x_iconst C dX6_node_4 ?_
    refine x_goto (tgt := 28) C dX6_node_5 (by decide) ?_
    refine x_istore_n C dX6_node_28 (by decide) ?_
    refine x_iload_n C dX6_node_29 rfl ?_
    refine x_iload_n C dX6_node_30 rfl ?_
    refine x_iload_n C dX6_node_31 rfl ?_
    refine x_ishl C dX6_node_32 (by omega) ?_
    refine x_iadd C dX6_node_33 ?_
    refine x_iload_n C dX6_node_34 rfl ?_
    refine x_iadd C dX6_node_35 ?_
    exact x_iret (st := []) C dX6_node_36 rfl ⟨congrArg (fun z => some (zi z)) (by rw [zp2_e hd, zmn]; first | rw [if_pos (by omega)] | rw [if_neg (by omega), if_pos (by omega)] | rw [if_neg (by omega), if_neg (by omega), if_pos (by omega)] | rw [if_neg (by omega), if_neg (by omega), if_neg (by omega)]), rfl, rfl, rfl⟩
theorem ctX6_sort (h : isMo σ n S) (m d r c : Int) (hm : 0 ≤ m ∧ m < 4) (hd : 0 ≤ d ∧ d ≤ 3) (hr : 0 ≤ r ∧ r < zp2 d) (hc : 0 ≤ c ∧ c < zp2 d) : zCt 2 0 0 yX6_sort cX6_sort 5 (some .int) [zr 145, zi m, zi d, zi r, zi c] n σ (some (zi (zsT S m (zmn d r c)))) n σ := by
  obtain ⟨⟨um, L, p, wl, lv, br, bc, hM⟩, hS, hn⟩ := h
  have hz := zmn_in hd hr hc
  refine zCt.of (by decide) rfl (Nat.le_of_ble_eq_true rfl) (fun K C => ?_)
  refine x_aload_n C dX6_sort_0 rfl ?_
  refine x_getfield C dX6_sort_1 lfX6_7 hM (by omega) rfl ?_
  refine x_sipush C dX6_sort_4 (by decide) ?_
  refine x_iload_n C dX6_sort_7 rfl ?_
  refine x_imul C dX6_sort_8 ?_
  refine x_iload_n C dX6_sort_9 rfl ?_
  refine x_iload_n C dX6_sort_10 rfl ?_
  refine x_iload C dX6_sort_11 rfl ?_
  refine x_callS C dX6_sort_13 (ctX6_node d r c hd) okX6_node lkX6_49 ⟨by decide, rfl, rfl, Nat.le_of_ble_eq_true rfl⟩ rfl (Or.inl ⟨rfl, rfl⟩) ?_
  refine x_iadd C dX6_sort_16 ?_
  refine x_iaload C dX6_sort_17 hS (by omega) ?_
  exact x_iret (st := []) C dX6_sort_18 rfl ⟨congrArg (fun z => some (zi z)) (by first | rfl | omega), rfl, rfl, rfl⟩
theorem ctX6_sorts (h : isMo σ n S) (m d r c x : Int) (hm : 0 ≤ m ∧ m < 4) (hd : 0 ≤ d ∧ d ≤ 3) (hr : 0 ≤ r ∧ r < zp2 d) (hc : 0 ≤ c ∧ c < zp2 d) : zCt 2 0 0 yX6_sorts cX6_sorts 6 none [zr 145, zi m, zi d, zi r, zi c, zi x] n σ none n (zsu σ 146 (zA 1365 (zu S (341 * m + zmn d r c) x))) := by
  obtain ⟨⟨um, L, p, wl, lv, br, bc, hM⟩, hS, hn⟩ := h
  have hz := zmn_in hd hr hc
  refine zCt.of (by decide) rfl (Nat.le_of_ble_eq_true rfl) (fun K C => ?_)
  refine x_aload_n C dX6_sorts_0 rfl ?_
  refine x_getfield C dX6_sorts_1 lfX6_7 hM (by omega) rfl ?_
  refine x_sipush C dX6_sorts_4 (by decide) ?_
  refine x_iload_n C dX6_sorts_7 rfl ?_
  refine x_imul C dX6_sorts_8 ?_
  refine x_iload_n C dX6_sorts_9 rfl ?_
  refine x_iload_n C dX6_sorts_10 rfl ?_
  refine x_iload C dX6_sorts_11 rfl ?_
  refine x_callS C dX6_sorts_13 (ctX6_node d r c hd) okX6_node lkX6_49 ⟨by decide, rfl, rfl, Nat.le_of_ble_eq_true rfl⟩ rfl (Or.inl ⟨rfl, rfl⟩) ?_
  refine x_iadd C dX6_sorts_16 ?_
  refine x_iload C dX6_sorts_17 rfl ?_
  refine x_iastore C dX6_sorts_19 hS (by omega) ?_
  refine x_nm (fun s19 e19 => ?_)
  have hM := (congrFun e19 145).trans ((zsu_n _ _ (by omega)).trans hM)
  have hS := (congrFun e19 146).trans (zsu_s _ _ _)
  exact x_vret (st := []) C dX6_sorts_20 rfl ⟨rfl, rfl, e19, rfl⟩
theorem ctX6_get (h : isMo σ n S) (m row col : Int) (hm : 0 ≤ m ∧ m < 4) (hr : 0 ≤ row ∧ row < 16) (hc : 0 ≤ col ∧ col < 16) : zCt 1 0 0 yX6_get cX6_get 4 (some .int) [zr 145, zi m, zi row, zi col] n σ (some (zi (zsE S m (row * 16 + col)))) n σ := by
  obtain ⟨⟨um, L, p, wl, lv, br, bc, hM⟩, hS, hn⟩ := h
  refine zCt.of (by decide) rfl (Nat.le_of_ble_eq_true rfl) (fun K C => ?_)
  refine x_aload_n C dX6_get_0 rfl ?_
  refine x_getfield C dX6_get_1 lfX6_7 hM (by omega) rfl ?_
  refine x_sipush C dX6_get_4 (by decide) ?_
  refine x_iload_n C dX6_get_7 rfl ?_
  refine x_imul C dX6_get_8 ?_
  refine x_bipush C dX6_get_9 (by decide) ?_
  refine x_iadd C dX6_get_11 ?_
  refine x_bipush C dX6_get_12 (by decide) ?_
  refine x_iload_n C dX6_get_14 rfl ?_
  refine x_imul C dX6_get_15 ?_
  refine x_iadd C dX6_get_16 ?_
  refine x_iload_n C dX6_get_17 rfl ?_
  refine x_iadd C dX6_get_18 ?_
  refine x_iaload C dX6_get_19 hS (by omega) ?_
  exact x_iret (st := []) C dX6_get_20 rfl ⟨congrArg (fun z => some (zi (S z))) (by omega), rfl, rfl, rfl⟩
theorem ctX6_lay (h : isMo σ n S) (m row col x : Int) (hm : 0 ≤ m ∧ m < 4) (hr : 0 ≤ row ∧ row < 16) (hc : 0 ≤ col ∧ col < 16) : zCt 1 0 0 yX6_lay cX6_lay 5 none [zr 145, zi m, zi row, zi col, zi x] n σ none n (zsu σ 146 (zA 1365 (zu S (341 * m + 85 + (row * 16 + col)) x))) := by
  obtain ⟨⟨um, L, p, wl, lv, br, bc, hM⟩, hS, hn⟩ := h
  refine zCt.of (by decide) rfl (Nat.le_of_ble_eq_true rfl) (fun K C => ?_)
  refine x_aload_n C dX6_lay_0 rfl ?_
  refine x_getfield C dX6_lay_1 lfX6_7 hM (by omega) rfl ?_
  refine x_sipush C dX6_lay_4 (by decide) ?_
  refine x_iload_n C dX6_lay_7 rfl ?_
  refine x_imul C dX6_lay_8 ?_
  refine x_bipush C dX6_lay_9 (by decide) ?_
  refine x_iadd C dX6_lay_11 ?_
  refine x_bipush C dX6_lay_12 (by decide) ?_
  refine x_iload_n C dX6_lay_14 rfl ?_
  refine x_imul C dX6_lay_15 ?_
  refine x_iadd C dX6_lay_16 ?_
  refine x_iload_n C dX6_lay_17 rfl ?_
  refine x_iadd C dX6_lay_18 ?_
  refine x_iload C dX6_lay_19 rfl ?_
  refine x_iastore C dX6_lay_21 hS (by omega) ?_
  refine x_nm (fun s21 e21 => ?_)
  have hM := (congrFun e21 145).trans ((zsu_n _ _ (by omega)).trans hM)
  have hS := (congrFun e21 146).trans (zsu_s _ _ _)
  exact x_vret (st := []) C dX6_lay_22 rfl ⟨rfl, rfl, by rw [e21, show 341 * m + 85 + 16 * row + col = 341 * m + 85 + (row * 16 + col) by omega], rfl⟩
/-- the room of a block of a sort, the cut ones too -/
def zrk (s q : Int) : Int := if s = 1 then q * q else if s = 2 then 2 * q else if s = 3 then 1 else 0
theorem ctX6_roomOf (s q : Int) (hs : 0 ≤ s ∧ s ≤ 3) : zCt 1 0 0 yX6_roomOf cX6_roomOf 2 (some .int) [zi s, zi q] n σ (some (zi (zrk s q))) n σ := by
  refine zCt.of (by decide) rfl (Nat.le_of_ble_eq_true rfl) (fun K C => ?_)
  refine x_iload_n C dX6_roomOf_0 rfl ?_
  refine x_iconst C dX6_roomOf_1 ?_
  refine x_icmp_ne (tgt := 11) C dX6_roomOf_2 (by decide) (by omega) (fun c2 => ?_) (fun c2 => ?_)
  · refine x_iload_n C dX6_roomOf_11 rfl ?_
    refine x_iconst C dX6_roomOf_12 ?_
    refine x_icmp_ne (tgt := 22) C dX6_roomOf_13 (by decide) (by omega) (fun c13 => ?_) (fun c13 => ?_)
    · refine x_iload_n C dX6_roomOf_22 rfl ?_
      refine x_iconst C dX6_roomOf_23 ?_
      refine x_icmp_ne (tgt := 31) C dX6_roomOf_24 (by decide) (by omega) (fun c24 => ?_) (fun c24 => ?_)
      · refine x_iconst C dX6_roomOf_31 ?_
        exact x_iret (st := []) C dX6_roomOf_32 rfl ⟨congrArg (fun z => some (zi z)) (by rw [zrk]; first | rw [if_pos (by omega)] | rw [if_neg (by omega), if_pos (by omega)] | rw [if_neg (by omega), if_neg (by omega), if_pos (by omega)] | rw [if_neg (by omega), if_neg (by omega), if_neg (by omega)]), rfl, rfl, rfl⟩
      · refine x_iconst C dX6_roomOf_27 ?_
        refine x_goto (tgt := 32) C dX6_roomOf_28 (by decide) ?_
        exact x_iret (st := []) C dX6_roomOf_32 rfl ⟨congrArg (fun z => some (zi z)) (by rw [zrk]; first | rw [if_pos (by omega)] | rw [if_neg (by omega), if_pos (by omega)] | rw [if_neg (by omega), if_neg (by omega), if_pos (by omega)] | rw [if_neg (by omega), if_neg (by omega), if_neg (by omega)]), rfl, rfl, rfl⟩
    · refine x_iconst C dX6_roomOf_16 ?_
      refine x_iload_n C dX6_roomOf_17 rfl ?_
      refine x_imul C dX6_roomOf_18 ?_
      refine x_goto (tgt := 32) C dX6_roomOf_19 (by decide) ?_
      exact x_iret (st := []) C dX6_roomOf_32 rfl ⟨congrArg (fun z => some (zi z)) (by rw [zrk]; first | rw [if_pos (by omega)] | rw [if_neg (by omega), if_pos (by omega)] | rw [if_neg (by omega), if_neg (by omega), if_pos (by omega)] | rw [if_neg (by omega), if_neg (by omega), if_neg (by omega)]), rfl, rfl, rfl⟩
  · refine x_iload_n C dX6_roomOf_5 rfl ?_
    refine x_iload_n C dX6_roomOf_6 rfl ?_
    refine x_imul C dX6_roomOf_7 ?_
    refine x_goto (tgt := 32) C dX6_roomOf_8 (by decide) ?_
    exact x_iret (st := []) C dX6_roomOf_32 rfl ⟨congrArg (fun z => some (zi z)) (by rw [zrk]; first | rw [if_pos (by omega)] | rw [if_neg (by omega), if_pos (by omega)] | rw [if_neg (by omega), if_neg (by omega), if_pos (by omega)] | rw [if_neg (by omega), if_neg (by omega), if_neg (by omega)]), rfl, rfl, rfl⟩
theorem ctX6_bounded (x : Int) (hx : -2147483648 ≤ x ∧ x < 2147483648) : zCt 1 0 0 yX6_bounded cX6_bounded 1 (some .int) [zi x] n σ (some (zi (zclp x))) n σ := by
  refine zCt.of (by decide) rfl (Nat.le_of_ble_eq_true rfl) (fun K C => ?_)
  refine x_iload_n C dX6_bounded_0 rfl ?_
  refine x_ldc (v := 1000000) C dX6_bounded_1 kcX6_123 (by decide) ?_
  refine x_icmp_le (tgt := 11) C dX6_bounded_3 (by decide) (by omega) (fun c3 => ?_) (fun c3 => ?_)
  · refine x_iload_n C dX6_bounded_11 rfl ?_
    refine x_ldc (v := -1000000) C dX6_bounded_12 kcX6_122 (by decide) ?_
    refine x_icmp_ge (tgt := 22) C dX6_bounded_14 (by decide) (by omega) (fun c14 => ?_) (fun c14 => ?_)
    · refine x_iload_n C dX6_bounded_22 rfl ?_
      exact x_iret (st := []) C dX6_bounded_23 rfl ⟨congrArg (fun z => some (zi z)) (by rw [zclp]; omega), rfl, rfl, rfl⟩
    · refine x_ldc (v := -1000000) C dX6_bounded_17 kcX6_122 (by decide) ?_
      refine x_goto (tgt := 23) C dX6_bounded_19 (by decide) ?_
      exact x_iret (st := []) C dX6_bounded_23 rfl ⟨congrArg (fun z => some (zi z)) (by rw [zclp]; omega), rfl, rfl, rfl⟩
  · refine x_ldc (v := 1000000) C dX6_bounded_6 kcX6_123 (by decide) ?_
    refine x_goto (tgt := 23) C dX6_bounded_8 (by decide) ?_
    exact x_iret (st := []) C dX6_bounded_23 rfl ⟨congrArg (fun z => some (zi z)) (by rw [zclp]; omega), rfl, rfl, rfl⟩
end
