/-! the law's calls, one by one -/
def zaM (v : Int) : Int := zlow (v / 2 ^ (4 : Int).toNat) (if v / 2 ^ (20 : Int).toNat % 8 = 0 then 5 else 2)
def zaR (v : Int) : Int := zlow (v / 2 ^ (6 : Int).toNat) (if v / 2 ^ (20 : Int).toNat % 8 = 1 then 17 else 6)
def zaC (v : Int) : Int := zlow (v / 2 ^ (9 : Int).toNat) 6
def zaV (w : Int) : Int := if w / 2 ^ (20 : Int).toNat % 2 = 0 then zlow w 7 - 3 else zlow w 2000003 - 1000001
def zaD (w : Int) : Int := if w % 2 = 0 then 100 else 102
def zaA (w : Int) : Int := zlow (w / 2 ^ (1 : Int).toNat) 9
def zaB (w : Int) : Int := zlow (w / 2 ^ (5 : Int).toNat) 10
theorem zaM_in (v : Int) : 0 ≤ zaM v ∧ zaM v < 5 := by
  unfold zaM
  split
  · exact zlow_in _ (by decide)
  · have := zlow_in (v / 2 ^ (4 : Int).toNat) (k := 2) (by decide)
    omega
theorem zaR_in (v : Int) : 0 ≤ zaR v ∧ zaR v < 17 := by
  unfold zaR
  split
  · exact zlow_in _ (by decide)
  · have := zlow_in (v / 2 ^ (6 : Int).toNat) (k := 6) (by decide)
    omega
theorem zaC_in (v : Int) : 0 ≤ zaC v ∧ zaC v < 6 := zlow_in _ (by decide)
theorem zaA_in (w : Int) : 0 ≤ zaA w ∧ zaA w < 9 := zlow_in _ (by decide)
theorem zaB_in (w : Int) : 0 ≤ zaB w ∧ zaB w < 10 := zlow_in _ (by decide)
theorem zaV_in (w : Int) : -1000001 ≤ zaV w ∧ zaV w ≤ 1000001 := by
  unfold zaV
  split
  · have := zlow_in w (k := 7) (by decide)
    omega
  · have := zlow_in w (k := 2000003) (by decide)
    omega
section
variable {n : Nat} {σ : zS}
theorem act_pre {Ret : zRT} {K : zKT} (C : zX yL_act cL_act 6 (some .int) 14 0 0 n Ret K) (v w : Int) (hv : -2147483648 ≤ v ∧ v < 2147483648) (hk : ∀ m row col, m = zaM v → row = zaR v → col = zaC v → K 60 [some (zr 1), some (zi v), some (zi w), some (zi m), some (zi row), some (zi col)] [] n σ 0) : K 0 (zen 6 [zr 1, zi v, zi w]) [] n σ 0 := by
  refine x_iload_n C dL_act_0 rfl ?_
  refine x_iconst C dL_act_1 ?_
  refine x_ishr C dL_act_2 (by omega) ?_
  refine x_iload_n C dL_act_3 rfl ?_
  refine x_bipush C dL_act_4 (by decide) ?_
  refine x_ishr C dL_act_6 (by omega) ?_
  refine x_bipush C dL_act_7 (by decide) ?_
  refine x_iand C dL_act_9 ?_
  rw [zand_7]
  refine x_if_ne (tgt := 17) C dL_act_10 (by decide) (by omega) (fun c10 => ?_) (fun c10 => ?_)
  · refine x_iconst C dL_act_17 ?_
    refine x_callS C dL_act_18 (ctL_low _ _ (by decide)) okL_low lkL_34 ⟨by decide, rfl, rfl, Nat.le_of_ble_eq_true rfl⟩ rfl (Or.inl ⟨rfl, rfl⟩) ?_
    refine x_istore_n C dL_act_21 (by decide) ?_
    refine x_iload_n C dL_act_22 rfl ?_
    refine x_bipush C dL_act_23 (by decide) ?_
    refine x_ishr C dL_act_25 (by omega) ?_
    refine x_iload_n C dL_act_26 rfl ?_
    refine x_bipush C dL_act_27 (by decide) ?_
    refine x_ishr C dL_act_29 (by omega) ?_
    refine x_bipush C dL_act_30 (by decide) ?_
    refine x_iand C dL_act_32 ?_
    rw [zand_7]
    refine x_iconst C dL_act_33 ?_
    refine x_icmp_ne (tgt := 42) C dL_act_34 (by decide) (by omega) (fun c34 => ?_) (fun c34 => ?_)
    · refine x_bipush C dL_act_42 (by decide) ?_
      refine x_callS C dL_act_44 (ctL_low _ _ (by decide)) okL_low lkL_34 ⟨by decide, rfl, rfl, Nat.le_of_ble_eq_true rfl⟩ rfl (Or.inl ⟨rfl, rfl⟩) ?_
      refine x_istore C dL_act_47 (by decide) ?_
      refine x_iload_n C dL_act_49 rfl ?_
      refine x_bipush C dL_act_50 (by decide) ?_
      refine x_ishr C dL_act_52 (by omega) ?_
      refine x_bipush C dL_act_53 (by decide) ?_
      refine x_callS C dL_act_55 (ctL_low _ _ (by decide)) okL_low lkL_34 ⟨by decide, rfl, rfl, Nat.le_of_ble_eq_true rfl⟩ rfl (Or.inl ⟨rfl, rfl⟩) ?_
      refine x_istore C dL_act_58 (by decide) ?_
      exact hk _ _ _ (by unfold zaM; first | rw [if_pos c10] | rw [if_neg c10]) (by unfold zaR; first | rw [if_pos c34] | rw [if_neg c34]) rfl
    · refine x_bipush C dL_act_37 (by decide) ?_
      refine x_goto (tgt := 44) C dL_act_39 (by decide) ?_
      refine x_callS C dL_act_44 (ctL_low _ _ (by decide)) okL_low lkL_34 ⟨by decide, rfl, rfl, Nat.le_of_ble_eq_true rfl⟩ rfl (Or.inl ⟨rfl, rfl⟩) ?_
      refine x_istore C dL_act_47 (by decide) ?_
      refine x_iload_n C dL_act_49 rfl ?_
      refine x_bipush C dL_act_50 (by decide) ?_
      refine x_ishr C dL_act_52 (by omega) ?_
      refine x_bipush C dL_act_53 (by decide) ?_
      refine x_callS C dL_act_55 (ctL_low _ _ (by decide)) okL_low lkL_34 ⟨by decide, rfl, rfl, Nat.le_of_ble_eq_true rfl⟩ rfl (Or.inl ⟨rfl, rfl⟩) ?_
      refine x_istore C dL_act_58 (by decide) ?_
      exact hk _ _ _ (by unfold zaM; first | rw [if_pos c10] | rw [if_neg c10]) (by unfold zaR; first | rw [if_pos c34] | rw [if_neg c34]) rfl
  · refine x_iconst C dL_act_13 ?_
    refine x_goto (tgt := 18) C dL_act_14 (by decide) ?_
    refine x_callS C dL_act_18 (ctL_low _ _ (by decide)) okL_low lkL_34 ⟨by decide, rfl, rfl, Nat.le_of_ble_eq_true rfl⟩ rfl (Or.inl ⟨rfl, rfl⟩) ?_
    refine x_istore_n C dL_act_21 (by decide) ?_
    refine x_iload_n C dL_act_22 rfl ?_
    refine x_bipush C dL_act_23 (by decide) ?_
    refine x_ishr C dL_act_25 (by omega) ?_
    refine x_iload_n C dL_act_26 rfl ?_
    refine x_bipush C dL_act_27 (by decide) ?_
    refine x_ishr C dL_act_29 (by omega) ?_
    refine x_bipush C dL_act_30 (by decide) ?_
    refine x_iand C dL_act_32 ?_
    rw [zand_7]
    refine x_iconst C dL_act_33 ?_
    refine x_icmp_ne (tgt := 42) C dL_act_34 (by decide) (by omega) (fun c34 => ?_) (fun c34 => ?_)
    · refine x_bipush C dL_act_42 (by decide) ?_
      refine x_callS C dL_act_44 (ctL_low _ _ (by decide)) okL_low lkL_34 ⟨by decide, rfl, rfl, Nat.le_of_ble_eq_true rfl⟩ rfl (Or.inl ⟨rfl, rfl⟩) ?_
      refine x_istore C dL_act_47 (by decide) ?_
      refine x_iload_n C dL_act_49 rfl ?_
      refine x_bipush C dL_act_50 (by decide) ?_
      refine x_ishr C dL_act_52 (by omega) ?_
      refine x_bipush C dL_act_53 (by decide) ?_
      refine x_callS C dL_act_55 (ctL_low _ _ (by decide)) okL_low lkL_34 ⟨by decide, rfl, rfl, Nat.le_of_ble_eq_true rfl⟩ rfl (Or.inl ⟨rfl, rfl⟩) ?_
      refine x_istore C dL_act_58 (by decide) ?_
      exact hk _ _ _ (by unfold zaM; first | rw [if_pos c10] | rw [if_neg c10]) (by unfold zaR; first | rw [if_pos c34] | rw [if_neg c34]) rfl
    · refine x_bipush C dL_act_37 (by decide) ?_
      refine x_goto (tgt := 44) C dL_act_39 (by decide) ?_
      refine x_callS C dL_act_44 (ctL_low _ _ (by decide)) okL_low lkL_34 ⟨by decide, rfl, rfl, Nat.le_of_ble_eq_true rfl⟩ rfl (Or.inl ⟨rfl, rfl⟩) ?_
      refine x_istore C dL_act_47 (by decide) ?_
      refine x_iload_n C dL_act_49 rfl ?_
      refine x_bipush C dL_act_50 (by decide) ?_
      refine x_ishr C dL_act_52 (by omega) ?_
      refine x_bipush C dL_act_53 (by decide) ?_
      refine x_callS C dL_act_55 (ctL_low _ _ (by decide)) okL_low lkL_34 ⟨by decide, rfl, rfl, Nat.le_of_ble_eq_true rfl⟩ rfl (Or.inl ⟨rfl, rfl⟩) ?_
      refine x_istore C dL_act_58 (by decide) ?_
      exact hk _ _ _ (by unfold zaM; first | rw [if_pos c10] | rw [if_neg c10]) (by unfold zaR; first | rw [if_pos c34] | rw [if_neg c34]) rfl
end
section
variable {σ : zS} {v w r : Int} {σ2 : zS} {vs : List zV}
theorem act0 (hv : -2147483648 ≤ v ∧ v < 2147483648) (hq : v % 16 = 0) (hB0 : σ 1 = zO 5 vs) (hM : zCt 12 0 0 yX5_shrink cX5_shrink 3 (some .int) [zr 1, zi (zaM v)] 144 σ (some (zi r)) 144 σ2) : zCt 14 0 0 yL_act cL_act 6 (some .int) [zr 1, zi v, zi w] 144 σ (some (zi r)) 144 σ2 := by
  refine zCt.of (by decide) rfl (Nat.le_of_ble_eq_true rfl) (fun K C => ?_)
  refine act_pre C v w hv (fun m row col e1 e2 e3 => ?_)
  subst e1 e2 e3
  refine x_iload_n C dL_act_60 rfl ?_
  refine x_bipush C dL_act_61 (by decide) ?_
  refine x_iand C dL_act_63 ?_
  rw [zand_15, hq]
  refine x_tableIn (tgt := 112) C dL_act_64 (by decide) rfl (by decide) ?_
  refine x_aload_n C dL_act_112 rfl ?_
  refine x_iload_n C dL_act_113 rfl ?_
  refine x_callV C dL_act_114 hM okX5_shrink lkL_37 ⟨⟨hB0, rfl, rfl⟩, (by omega)⟩ ⟨by decide, rfl, rfl, Nat.le_of_ble_eq_true rfl⟩ rfl (Or.inl ⟨rfl, rfl⟩) ?_
  exact x_iret (st := []) C dL_act_117 rfl ⟨congrArg (fun z => some (zi z)) (by first | rfl | omega), rfl, rfl, rfl⟩
theorem act1 (hv : -2147483648 ≤ v ∧ v < 2147483648) (hq : v % 16 = 1) (hB0 : σ 1 = zO 5 vs) (hM : zCt 6 0 0 yX5_clear cX5_clear 4 (some .int) [zr 1, zi (zaM v), zi (zaR v), zi (zaC v)] 144 σ (some (zi r)) 144 σ2) : zCt 14 0 0 yL_act cL_act 6 (some .int) [zr 1, zi v, zi w] 144 σ (some (zi r)) 144 σ2 := by
  refine zCt.of (by decide) rfl (Nat.le_of_ble_eq_true rfl) (fun K C => ?_)
  refine act_pre C v w hv (fun m row col e1 e2 e3 => ?_)
  subst e1 e2 e3
  refine x_iload_n C dL_act_60 rfl ?_
  refine x_bipush C dL_act_61 (by decide) ?_
  refine x_iand C dL_act_63 ?_
  rw [zand_15, hq]
  refine x_tableIn (tgt := 118) C dL_act_64 (by decide) rfl (by decide) ?_
  refine x_aload_n C dL_act_118 rfl ?_
  refine x_iload_n C dL_act_119 rfl ?_
  refine x_iload C dL_act_120 rfl ?_
  refine x_iload C dL_act_122 rfl ?_
  refine x_callV C dL_act_124 hM okX5_clear lkL_40 ⟨⟨hB0, rfl, rfl⟩, (by omega)⟩ ⟨by decide, rfl, rfl, Nat.le_of_ble_eq_true rfl⟩ rfl (Or.inl ⟨rfl, rfl⟩) ?_
  exact x_iret (st := []) C dL_act_127 rfl ⟨congrArg (fun z => some (zi z)) (by first | rfl | omega), rfl, rfl, rfl⟩
theorem act2 (hv : -2147483648 ≤ v ∧ v < 2147483648) (hq : v % 16 = 2) (hB0 : σ 1 = zO 5 vs) (hM : zCt 5 0 0 yX5_turn cX5_turn 2 (some .int) [zr 1, zi (zaM v)] 144 σ (some (zi r)) 144 σ2) : zCt 14 0 0 yL_act cL_act 6 (some .int) [zr 1, zi v, zi w] 144 σ (some (zi r)) 144 σ2 := by
  refine zCt.of (by decide) rfl (Nat.le_of_ble_eq_true rfl) (fun K C => ?_)
  refine act_pre C v w hv (fun m row col e1 e2 e3 => ?_)
  subst e1 e2 e3
  refine x_iload_n C dL_act_60 rfl ?_
  refine x_bipush C dL_act_61 (by decide) ?_
  refine x_iand C dL_act_63 ?_
  rw [zand_15, hq]
  refine x_tableIn (tgt := 128) C dL_act_64 (by decide) rfl (by decide) ?_
  refine x_aload_n C dL_act_128 rfl ?_
  refine x_iload_n C dL_act_129 rfl ?_
  refine x_callV C dL_act_130 hM okX5_turn lkL_43 ⟨⟨hB0, rfl, rfl⟩, (by omega)⟩ ⟨by decide, rfl, rfl, Nat.le_of_ble_eq_true rfl⟩ rfl (Or.inl ⟨rfl, rfl⟩) ?_
  exact x_iret (st := []) C dL_act_133 rfl ⟨congrArg (fun z => some (zi z)) (by first | rfl | omega), rfl, rfl, rfl⟩
theorem act3 (hv : -2147483648 ≤ v ∧ v < 2147483648) (hw : -2147483648 ≤ w ∧ w < 2147483648) (hq : v % 16 = 3) (hB0 : σ 1 = zO 5 vs) (hM : zCt 9 0 0 yX5_add cX5_add 4 (some .int) [zr 1, zi (zaM v), zi (zlow w 3), zi (zlow (w / 2 ^ (2 : Int).toNat) 201 - 100)] 144 σ (some (zi r)) 144 σ2) : zCt 14 0 0 yL_act cL_act 6 (some .int) [zr 1, zi v, zi w] 144 σ (some (zi r)) 144 σ2 := by
  refine zCt.of (by decide) rfl (Nat.le_of_ble_eq_true rfl) (fun K C => ?_)
  refine act_pre C v w hv (fun m row col e1 e2 e3 => ?_)
  subst e1 e2 e3
  refine x_iload_n C dL_act_60 rfl ?_
  refine x_bipush C dL_act_61 (by decide) ?_
  refine x_iand C dL_act_63 ?_
  rw [zand_15, hq]
  refine x_tableIn (tgt := 134) C dL_act_64 (by decide) rfl (by decide) ?_
  refine x_aload_n C dL_act_134 rfl ?_
  refine x_iload_n C dL_act_135 rfl ?_
  refine x_iload_n C dL_act_136 rfl ?_
  refine x_iconst C dL_act_137 ?_
  refine x_callS C dL_act_138 (ctL_low _ _ (by decide)) okL_low lkL_34 ⟨by decide, rfl, rfl, Nat.le_of_ble_eq_true rfl⟩ rfl (Or.inl ⟨rfl, rfl⟩) ?_
  refine x_iload_n C dL_act_141 rfl ?_
  refine x_iconst C dL_act_142 ?_
  refine x_ishr C dL_act_143 (by omega) ?_
  refine x_sipush C dL_act_144 (by decide) ?_
  refine x_callS C dL_act_147 (ctL_low _ _ (by decide)) okL_low lkL_34 ⟨by decide, rfl, rfl, Nat.le_of_ble_eq_true rfl⟩ rfl (Or.inl ⟨rfl, rfl⟩) ?_
  refine x_bipush C dL_act_150 (by decide) ?_
  refine x_isub C dL_act_152 ?_
  refine x_callV C dL_act_153 hM okX5_add lkL_46 ⟨⟨hB0, rfl, rfl⟩, (by omega)⟩ ⟨by decide, rfl, rfl, Nat.le_of_ble_eq_true rfl⟩ rfl (Or.inl ⟨rfl, rfl⟩) ?_
  exact x_iret (st := []) C dL_act_156 rfl ⟨congrArg (fun z => some (zi z)) (by first | rfl | omega), rfl, rfl, rfl⟩
theorem act4 (hv : -2147483648 ≤ v ∧ v < 2147483648) (hq : v % 16 = 4) (hB0 : σ 1 = zO 5 vs) (hM : zCt 9 0 0 yX5_copy cX5_copy 3 (some .int) [zr 1, zi (zaM v), zi (zlow w 3)] 144 σ (some (zi r)) 144 σ2) : zCt 14 0 0 yL_act cL_act 6 (some .int) [zr 1, zi v, zi w] 144 σ (some (zi r)) 144 σ2 := by
  refine zCt.of (by decide) rfl (Nat.le_of_ble_eq_true rfl) (fun K C => ?_)
  refine act_pre C v w hv (fun m row col e1 e2 e3 => ?_)
  subst e1 e2 e3
  refine x_iload_n C dL_act_60 rfl ?_
  refine x_bipush C dL_act_61 (by decide) ?_
  refine x_iand C dL_act_63 ?_
  rw [zand_15, hq]
  refine x_tableIn (tgt := 157) C dL_act_64 (by decide) rfl (by decide) ?_
  refine x_aload_n C dL_act_157 rfl ?_
  refine x_iload_n C dL_act_158 rfl ?_
  refine x_iload_n C dL_act_159 rfl ?_
  refine x_iconst C dL_act_160 ?_
  refine x_callS C dL_act_161 (ctL_low _ _ (by decide)) okL_low lkL_34 ⟨by decide, rfl, rfl, Nat.le_of_ble_eq_true rfl⟩ rfl (Or.inl ⟨rfl, rfl⟩) ?_
  refine x_callV C dL_act_164 hM okX5_copy lkL_49 ⟨⟨hB0, rfl, rfl⟩, (by omega)⟩ ⟨by decide, rfl, rfl, Nat.le_of_ble_eq_true rfl⟩ rfl (Or.inl ⟨rfl, rfl⟩) ?_
  exact x_iret (st := []) C dL_act_167 rfl ⟨congrArg (fun z => some (zi z)) (by first | rfl | omega), rfl, rfl, rfl⟩
theorem act5 (hv : -2147483648 ≤ v ∧ v < 2147483648) (hq : v % 16 = 5) (hB0 : σ 1 = zO 5 vs) (hM : zCt 10 0 0 yX5_restore cX5_restore 2 (some .int) [zr 1, zi (w % 2)] 144 σ (some (zi r)) 144 σ2) : zCt 14 0 0 yL_act cL_act 6 (some .int) [zr 1, zi v, zi w] 144 σ (some (zi r)) 144 σ2 := by
  refine zCt.of (by decide) rfl (Nat.le_of_ble_eq_true rfl) (fun K C => ?_)
  refine act_pre C v w hv (fun m row col e1 e2 e3 => ?_)
  subst e1 e2 e3
  refine x_iload_n C dL_act_60 rfl ?_
  refine x_bipush C dL_act_61 (by decide) ?_
  refine x_iand C dL_act_63 ?_
  rw [zand_15, hq]
  refine x_tableIn (tgt := 168) C dL_act_64 (by decide) rfl (by decide) ?_
  refine x_aload_n C dL_act_168 rfl ?_
  refine x_iload_n C dL_act_169 rfl ?_
  refine x_iconst C dL_act_170 ?_
  refine x_iand C dL_act_171 ?_
  rw [zand_1]
  refine x_callV C dL_act_172 hM okX5_restore lkL_52 ⟨⟨hB0, rfl, rfl⟩, (by omega)⟩ ⟨by decide, rfl, rfl, Nat.le_of_ble_eq_true rfl⟩ rfl (Or.inl ⟨rfl, rfl⟩) ?_
  exact x_iret (st := []) C dL_act_175 rfl ⟨congrArg (fun z => some (zi z)) (by first | rfl | omega), rfl, rfl, rfl⟩
theorem act8 (hv : -2147483648 ≤ v ∧ v < 2147483648) (hw : -2147483648 ≤ w ∧ w < 2147483648) (hq : 7 < v % 16) (hB0 : σ 1 = zO 5 vs) (hM : zCt 6 0 0 yX5_entry cX5_entry 6 (some .int) [zr 1, zi (zaM v), zi (zaR v), zi (zaC v), zi (zaV w)] 144 σ (some (zi r)) 144 σ2) : zCt 14 0 0 yL_act cL_act 6 (some .int) [zr 1, zi v, zi w] 144 σ (some (zi r)) 144 σ2 := by
  refine zCt.of (by decide) rfl (Nat.le_of_ble_eq_true rfl) (fun K C => ?_)
  refine act_pre C v w hv (fun m row col e1 e2 e3 => ?_)
  subst e1 e2 e3
  have h284 : ∀ y, y = zaV w → K 284 [some (zr 1), some (zi v), some (zi w), some (zi (zaM v)), some (zi (zaR v)), some (zi (zaC v))] [zi y, zi (zaC v), zi (zaR v), zi (zaM v), zr 1] 144 σ 0 := by
    intro y ey
    subst ey
    refine x_callV C dL_act_284 hM okX5_entry lkL_74 ⟨⟨hB0, rfl, rfl⟩, (by omega)⟩ ⟨by decide, rfl, rfl, Nat.le_of_ble_eq_true rfl⟩ rfl (Or.inl ⟨rfl, rfl⟩) ?_
    exact x_iret (st := []) C dL_act_287 rfl ⟨congrArg (fun z => some (zi z)) (by first | rfl | omega), rfl, rfl, rfl⟩
  refine x_iload_n C dL_act_60 rfl ?_
  refine x_bipush C dL_act_61 (by decide) ?_
  refine x_iand C dL_act_63 ?_
  rw [zand_15]
  refine x_tableOut (tgt := 249) C dL_act_64 (by omega) (by decide) ?_
  refine x_aload_n C dL_act_249 rfl ?_
  refine x_iload_n C dL_act_250 rfl ?_
  refine x_iload C dL_act_251 rfl ?_
  refine x_iload C dL_act_253 rfl ?_
  refine x_iload_n C dL_act_255 rfl ?_
  refine x_bipush C dL_act_256 (by decide) ?_
  refine x_ishr C dL_act_258 (by omega) ?_
  refine x_iconst C dL_act_259 ?_
  refine x_iand C dL_act_260 ?_
  rw [zand_1]
  refine x_if_ne (tgt := 275) C dL_act_261 (by decide) (by omega) (fun c261 => ?_) (fun c261 => ?_)
  · refine x_iload_n C dL_act_275 rfl ?_
    refine x_ldc (v := 2000003) C dL_act_276 kcL_72 (by decide) ?_
    refine x_callS C dL_act_278 (ctL_low _ _ (by decide)) okL_low lkL_34 ⟨by decide, rfl, rfl, Nat.le_of_ble_eq_true rfl⟩ rfl (Or.inl ⟨rfl, rfl⟩) ?_
    refine x_ldc (v := 1000001) C dL_act_281 kcL_73 (by decide) ?_
    refine x_isub C dL_act_283 ?_
    exact h284 _ (by unfold zaV; first | rw [if_pos c261] | rw [if_neg c261])
  · refine x_iload_n C dL_act_264 rfl ?_
    refine x_bipush C dL_act_265 (by decide) ?_
    refine x_callS C dL_act_267 (ctL_low _ _ (by decide)) okL_low lkL_34 ⟨by decide, rfl, rfl, Nat.le_of_ble_eq_true rfl⟩ rfl (Or.inl ⟨rfl, rfl⟩) ?_
    refine x_iconst C dL_act_270 ?_
    refine x_isub C dL_act_271 ?_
    refine x_goto (tgt := 284) C dL_act_272 (by decide) ?_
    exact h284 _ (by unfold zaV; first | rw [if_pos c261] | rw [if_neg c261])
theorem act6 {σa σb σc σd σe : zS} {L0 L1 L2 L3 L4 : Int} (hv : -2147483648 ≤ v ∧ v < 2147483648) (hw : -2147483648 ≤ w ∧ w < 2147483648) (hq : v % 16 = 6 ∨ v % 16 = 7) (hB0 : σ 1 = zO 5 vs) (hBa : σa 1 = zO 5 vs) (hBb : σb 1 = zO 5 vs) (hBc : σc 1 = zO 5 vs) (hBd : σd 1 = zO 5 vs) (hBe : σe 1 = zO 5 vs)
    (hM0 : zCt 1 0 0 yX5_wipe cX5_wipe 2 (some .int) [zr 1] 144 σ (some (zi L0)) 144 σa)
    (hM1 : zCt 3 0 0 yX5_put cX5_put 5 (some .int) [zr 1, zl (zaD w)] 144 σa (some (zi L1)) 144 σb)
    (hM2 : zCt 3 0 0 yX5_put cX5_put 5 (some .int) [zr 1, zl (49 + zaA w)] 144 σb (some (zi L2)) 144 σc)
    (hM3 : zCt 3 0 0 yX5_put cX5_put 5 (some .int) [zr 1, zl 44] 144 σc (some (zi L3)) 144 σd)
    (hM4 : zCt 3 0 0 yX5_put cX5_put 5 (some .int) [zr 1, zl (48 + zaB w)] 144 σd (some (zi L4)) 144 σe)
    (hM : zCt 13 0 0 yX5_tell cX5_tell 2 (some .int) [zr 1, zi (zaM v)] 144 σe (some (zi r)) 144 σ2) : zCt 14 0 0 yL_act cL_act 6 (some .int) [zr 1, zi v, zi w] 144 σ (some (zi r)) 144 σ2 := by
  refine zCt.of (by decide) rfl (Nat.le_of_ble_eq_true rfl) (fun K C => ?_)
  refine act_pre C v w hv (fun m row col e1 e2 e3 => ?_)
  subst e1 e2 e3
  have hA := zaA_in w
  have hB := zaB_in w
  have h197 : ∀ y, y = zaD w → K 197 [some (zr 1), some (zi v), some (zi w), some (zi (zaM v)), some (zi (zaR v)), some (zi (zaC v))] [zl y, zr 1] 144 σa 0 := by
    intro y ey
    subst ey
    have hB0 := hBa
    refine x_callV C dL_act_197 hM1 okX5_put lkL_63 ⟨⟨hB0, rfl, rfl⟩, (by omega)⟩ ⟨by decide, rfl, rfl, Nat.le_of_ble_eq_true rfl⟩ rfl (Or.inl ⟨rfl, rfl⟩) ?_
    have hB0 := hBb
    refine x_pop C dL_act_200 rfl ?_
    refine x_aload_n C dL_act_201 rfl ?_
    refine x_bipush C dL_act_202 (by decide) ?_
    refine x_iload_n C dL_act_204 rfl ?_
    refine x_iconst C dL_act_205 ?_
    refine x_ishr C dL_act_206 (by omega) ?_
    refine x_bipush C dL_act_207 (by decide) ?_
    refine x_callS C dL_act_209 (ctL_low (w / 2 ^ (1 : Int).toNat) 9 (by decide)) okL_low lkL_34 ⟨by decide, rfl, rfl, Nat.le_of_ble_eq_true rfl⟩ rfl (Or.inl ⟨rfl, rfl⟩) ?_
    refine x_iadd C dL_act_212 ?_
    refine x_i2l C dL_act_213 (show -2147483648 ≤ 49 + zaA w ∧ 49 + zaA w < 2147483648 by omega) ?_
    refine x_callV C dL_act_214 hM2 okX5_put lkL_63 ⟨⟨hB0, rfl, rfl⟩, (by omega)⟩ ⟨by decide, rfl, rfl, Nat.le_of_ble_eq_true rfl⟩ rfl (Or.inl ⟨rfl, rfl⟩) ?_
    have hB0 := hBc
    refine x_pop C dL_act_217 rfl ?_
    refine x_aload_n C dL_act_218 rfl ?_
    refine x_ldc2 (v := 44) C dL_act_219 kcL_67 (by decide) ?_
    refine x_callV C dL_act_222 hM3 okX5_put lkL_63 ⟨⟨hB0, rfl, rfl⟩, (by omega)⟩ ⟨by decide, rfl, rfl, Nat.le_of_ble_eq_true rfl⟩ rfl (Or.inl ⟨rfl, rfl⟩) ?_
    have hB0 := hBd
    refine x_pop C dL_act_225 rfl ?_
    refine x_aload_n C dL_act_226 rfl ?_
    refine x_bipush C dL_act_227 (by decide) ?_
    refine x_iload_n C dL_act_229 rfl ?_
    refine x_iconst C dL_act_230 ?_
    refine x_ishr C dL_act_231 (by omega) ?_
    refine x_bipush C dL_act_232 (by decide) ?_
    refine x_callS C dL_act_234 (ctL_low (w / 2 ^ (5 : Int).toNat) 10 (by decide)) okL_low lkL_34 ⟨by decide, rfl, rfl, Nat.le_of_ble_eq_true rfl⟩ rfl (Or.inl ⟨rfl, rfl⟩) ?_
    refine x_iadd C dL_act_237 ?_
    refine x_i2l C dL_act_238 (show -2147483648 ≤ 48 + zaB w ∧ 48 + zaB w < 2147483648 by omega) ?_
    refine x_callV C dL_act_239 hM4 okX5_put lkL_63 ⟨⟨hB0, rfl, rfl⟩, (by omega)⟩ ⟨by decide, rfl, rfl, Nat.le_of_ble_eq_true rfl⟩ rfl (Or.inl ⟨rfl, rfl⟩) ?_
    have hB0 := hBe
    refine x_pop C dL_act_242 rfl ?_
    refine x_aload_n C dL_act_243 rfl ?_
    refine x_iload_n C dL_act_244 rfl ?_
    refine x_callV C dL_act_245 hM okX5_tell lkL_69 ⟨⟨hB0, rfl, rfl⟩, (by omega)⟩ ⟨by decide, rfl, rfl, Nat.le_of_ble_eq_true rfl⟩ rfl (Or.inl ⟨rfl, rfl⟩) ?_
    exact x_iret (st := []) C dL_act_248 rfl ⟨congrArg (fun z => some (zi z)) (by first | rfl | omega), rfl, rfl, rfl⟩
  have h176 : K 176 [some (zr 1), some (zi v), some (zi w), some (zi (zaM v)), some (zi (zaR v)), some (zi (zaC v))] [] 144 σ 0 := by
    refine x_aload_n C dL_act_176 rfl ?_
    refine x_callV C dL_act_177 hM0 okX5_wipe lkL_55 ⟨⟨hB0, rfl, rfl⟩, (by omega)⟩ ⟨by decide, rfl, rfl, Nat.le_of_ble_eq_true rfl⟩ rfl (Or.inl ⟨rfl, rfl⟩) ?_
    have hB0 := hBa
    refine x_pop C dL_act_180 rfl ?_
    refine x_aload_n C dL_act_181 rfl ?_
    refine x_iload_n C dL_act_182 rfl ?_
    refine x_iconst C dL_act_183 ?_
    refine x_iand C dL_act_184 ?_
    rw [zand_1]
    refine x_if_ne (tgt := 194) C dL_act_185 (by decide) (by omega) (fun c185 => ?_) (fun c185 => ?_)
    · refine x_ldc2 (v := 102) C dL_act_194 kcL_61 (by decide) ?_
      exact h197 _ (by unfold zaD; first | rw [if_pos c185] | rw [if_neg c185])
    · refine x_ldc2 (v := 100) C dL_act_188 kcL_59 (by decide) ?_
      refine x_goto (tgt := 197) C dL_act_191 (by decide) ?_
      exact h197 _ (by unfold zaD; first | rw [if_pos c185] | rw [if_neg c185])
  rcases hq with hq | hq
  · skip
    refine x_iload_n C dL_act_60 rfl ?_
    refine x_bipush C dL_act_61 (by decide) ?_
    refine x_iand C dL_act_63 ?_
    rw [zand_15, hq]
    refine x_tableIn (tgt := 176) C dL_act_64 (by decide) rfl (by decide) ?_
    exact h176
  · skip
    refine x_iload_n C dL_act_60 rfl ?_
    refine x_bipush C dL_act_61 (by decide) ?_
    refine x_iand C dL_act_63 ?_
    rw [zand_15, hq]
    refine x_tableIn (tgt := 176) C dL_act_64 (by decide) rfl (by decide) ?_
    exact h176
end
