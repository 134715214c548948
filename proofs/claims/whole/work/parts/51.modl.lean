section
variable {n : Nat} {σ : zS} {S U : Int → Int} {um L p lv br bc : Int} {wl : Bool}
theorem ctX6_put {P : Int → Int} (hM : σ 145 = zMO um L p wl lv br bc) (hP : σ 151 = zA 80 P) (hn : 155 ≤ n) (hL : 0 ≤ L ∧ L ≤ 80) {z : Int} (hz : -9223372036854775808 ≤ z ∧ z < 9223372036854775808) {k : Nat} (hk : zsgn (z % 18446744073709551616) k) {r : Int} {σ2 : zS} (hE : (r = -2 ∧ k = 0 ∧ σ2 = σ) ∨ (r = -4 ∧ k ≠ 0 ∧ 80 < L + k ∧ σ2 = σ) ∨ (r = L + k ∧ (0 < k ∧ k ≤ 8) ∧ L + k ≤ 80 ∧ σ2 = zsu (zsu σ 151 (zA 80 (fun j => if L ≤ j ∧ j < L + k then z % 18446744073709551616 / 256 ^ (L + k - 1 - j).toNat % 256 else P j))) 145 (zMO um (L + k) p wl lv br bc))) : zCt 13 0 0 yX6_put cX6_put 8 (some .int) [zr 145, zl z] n σ (some (zi r)) n σ2 := by
  have hu : 0 ≤ z % 18446744073709551616 ∧ z % 18446744073709551616 < 18446744073709551616 := by omega
  refine zCt.of (by decide) rfl (Nat.le_of_ble_eq_true rfl) (fun K C => ?_)
  have fill : (r = L + k ∧ (0 < k ∧ k ≤ 8) ∧ L + k ≤ 80 ∧ σ2 = zsu (zsu σ 151 (zA 80 (fun j => if L ≤ j ∧ j < L + k then z % 18446744073709551616 / 256 ^ (L + k - 1 - j).toNat % 256 else P j))) 145 (zMO um (L + k) p wl lv br bc)) → ∀ j : Nat, j ≤ k → K 108 [some (zr 145), some (zl z), none, some (zi (k : Int)), none, none, none, some (zi (j : Int))] [] n (zsu σ 151 (zA 80 (fun i => if L ≤ i ∧ i < L + (j : Int) then z % 18446744073709551616 / 256 ^ (L + k - 1 - i).toNat % 256 else P i))) 0 := by
    rintro ⟨g1, g2, g3, g4⟩
    refine zloop _ k (fun j hj ih => ?_)
    generalize hT : (fun i => if L ≤ i ∧ i < L + (j : Int) then z % 18446744073709551616 / 256 ^ (L + k - 1 - i).toNat % 256 else P i) = T
    have hM := (zsu_n σ (zA 80 T) (show (145 : Int) ≠ 151 by decide)).trans hM
    have hP := zsu_s σ 151 (zA 80 T)
    refine x_iload C dX6_put_108 rfl ?_
    refine x_iload_n C dX6_put_110 rfl ?_
    refine x_icmp_ge (tgt := 148) C dX6_put_111 (by decide) (by omega) (fun c111 => ?_) (fun c111 => ?_)
    · refine x_aload_n C dX6_put_148 rfl ?_
      refine x_dup C dX6_put_149 rfl ?_
      refine x_getfield C dX6_put_150 lfX6_115 hM (by omega) rfl ?_
      refine x_iload_n C dX6_put_153 rfl ?_
      refine x_iadd C dX6_put_154 ?_
      refine x_putI C dX6_put_155 lfX6_115 lyX6_8 hM (by omega) (Nat.le_of_ble_eq_true rfl) ?_
      refine x_nm (fun s155 e155 => ?_)
      have hM := (congrFun e155 145).trans (zsu_s _ _ _)
      have hP := (congrFun e155 151).trans ((zsu_n _ _ (by omega)).trans hP)
      refine x_aload_n C dX6_put_158 rfl ?_
      refine x_getfield C dX6_put_159 lfX6_115 hM (by omega) rfl ?_
      exact x_iret (st := []) C dX6_put_162 rfl ⟨congrArg (fun z => some (zi z)) g1.symm, rfl, by rw [e155, g4, ← hT, show j = k by omega]; rfl, rfl⟩
    · refine x_aload_n C dX6_put_114 rfl ?_
      refine x_getfield C dX6_put_115 lfX6_26 hM (by omega) rfl ?_
      refine x_aload_n C dX6_put_118 rfl ?_
      refine x_getfield C dX6_put_119 lfX6_115 hM (by omega) rfl ?_
      refine x_iload C dX6_put_122 rfl ?_
      refine x_iadd C dX6_put_124 ?_
      refine x_lload_n C dX6_put_125 rfl ?_
      refine x_bipush C dX6_put_126 (by decide) ?_
      refine x_iload_n C dX6_put_128 rfl ?_
      refine x_iconst C dX6_put_129 ?_
      refine x_isub C dX6_put_130 ?_
      refine x_iload C dX6_put_131 rfl ?_
      refine x_isub C dX6_put_133 ?_
      refine x_imul C dX6_put_134 ?_
      refine x_lushr C dX6_put_135 (by omega) ?_
      have hpw : (2 : Int) ^ (8 * ((k : Int) - 1 - j)).toNat = 256 ^ (k - 1 - j) := by rw [show 8 * ((k : Int) - 1 - j) = ((k - 1 - j : Nat) : Int) * 8 by omega]; exact z8_256 _
      rw [hpw]
      refine x_ldc2 (v := 255) C dX6_put_136 kcX6_193 (by decide) ?_
      refine x_land C dX6_put_139 ?_
      rw [zandl_255]
      refine x_l2i C dX6_put_140 ?_
      refine x_iastore C dX6_put_141 hP (by omega) ?_
      refine x_nm (fun s141 e141 => ?_)
      have hM := (congrFun e141 145).trans ((zsu_n _ _ (by omega)).trans hM)
      have hP := (congrFun e141 151).trans (zsu_s _ _ _)
      have ih := ih (by omega)
      rw [show (fun i => if L ≤ i ∧ i < L + ((j + 1 : Nat) : Int) then z % 18446744073709551616 / 256 ^ (L + k - 1 - i).toNat % 256 else P i) = zu T (L + j) (z % 18446744073709551616 / 256 ^ (k - 1 - j) % 256) by
        rw [← hT]
        funext i
        unfold zu
        by_cases q : i = L + j
        · rw [if_pos q, if_pos (by omega), show (L + k - 1 - i).toNat = k - 1 - j by omega]
        · rw [if_neg q]
          dsimp only
          by_cases q2 : L ≤ i ∧ i < L + (j : Int)
          · rw [if_pos q2, if_pos (by omega)]
          · rw [if_neg q2, if_neg (by omega)]] at ih
      rw [e141, zsu_u]
      refine x_iinc C dX6_put_142 rfl (by decide) ?_
      refine x_goto (tgt := 108) C dX6_put_145 (by decide) ?_
      exact ih
  have fin : ∀ (i : Nat) (b : Bool), i ≤ 8 → (i = 8 ∨ z % 18446744073709551616 / 256 ^ i % 256 = 0) → (∀ j : Nat, j < i → z % 18446744073709551616 / 256 ^ j % 256 ≠ 0) → (b = true ↔ ∀ j : Nat, j < i → 33 ≤ z % 18446744073709551616 / 256 ^ j % 256 ∧ z % 18446744073709551616 / 256 ^ j % 256 ≤ 126) → K 72 [some (zr 145), some (zl z), none, some (zi (i : Int)), some (zl (zrst z i)), none, some (zi (zb b)), none] [] n σ 0 := by
    intro i b hi hend hnz hb
    have hri := zrst_in hz i
    have hr0 := zrst_0 hz i
    have hbad : (i = 0 ∨ b = false ∨ zrst z i ≠ 0) → k = 0 := by
      intro q
      refine zsgn_one hu.1 hk (Or.inr ⟨rfl, fun j hj => ?_⟩)
      rcases Nat.lt_trichotomy i j with q2 | q2 | q2
      · have h1 := (hj.2.1 i q2).1
        have h2 := hj.1.2
        omega
      · subst q2
        rcases q with q | q | q
        · have := hj.1.1
          omega
        · rw [hb.mpr hj.2.1] at q
          cases q
        · exact q (hr0.mpr hj.2.2)
      · refine hnz j q2 ?_
        rw [hj.2.2]
        rfl
    have hgood : i ≠ 0 → b = true → zrst z i = 0 → k = i := by
      intro q1 q2 q3
      exact zsgn_one hu.1 hk (Or.inl ⟨⟨by omega, hi⟩, hb.mp q2, hr0.mp q3⟩)
    refine x_iload_n C dX6_put_72 rfl ?_
    refine x_if_eq (tgt := 88) C dX6_put_73 (by decide) (by omega) (fun c73 => ?_) (fun c73 => ?_)
    · refine x_bipush C dX6_put_88 (by decide) ?_
      exact x_iret (st := []) C dX6_put_90 rfl (by
  have h0 : k = 0 := hbad (by first | exact Or.inl (by omega) | exact Or.inr (Or.inl c78) | exact Or.inr (Or.inr (by omega)))
  rcases hE with e | e | e
  · exact ⟨congrArg (fun z => some (zi z)) e.1.symm, rfl, e.2.2.symm, rfl⟩
  · omega
  · omega)
    · refine x_iload C dX6_put_76 rfl ?_
      refine x_ifeq_b (tgt := 88) C dX6_put_78 (by decide) (fun c78 => ?_) (fun c78 => ?_)
      · refine x_bipush C dX6_put_88 (by decide) ?_
        exact x_iret (st := []) C dX6_put_90 rfl (by
  have h0 : k = 0 := hbad (by first | exact Or.inl (by omega) | exact Or.inr (Or.inl c78) | exact Or.inr (Or.inr (by omega)))
  rcases hE with e | e | e
  · exact ⟨congrArg (fun z => some (zi z)) e.1.symm, rfl, e.2.2.symm, rfl⟩
  · omega
  · omega)
      · refine x_lload C dX6_put_81 rfl ?_
        refine x_lconst C dX6_put_83 ?_
        refine x_lcmp C dX6_put_84 (by omega) (fun r84 q84 => ?_)
        refine x_if_eq (tgt := 91) C dX6_put_85 (by decide) (by omega) (fun c85 => ?_) (fun c85 => ?_)
        · refine x_aload_n C dX6_put_91 rfl ?_
          refine x_getfield C dX6_put_92 lfX6_115 hM (by omega) rfl ?_
          refine x_iload_n C dX6_put_95 rfl ?_
          refine x_iadd C dX6_put_96 ?_
          refine x_bipush C dX6_put_97 (by decide) ?_
          refine x_icmp_le (tgt := 105) C dX6_put_99 (by decide) (by omega) (fun c99 => ?_) (fun c99 => ?_)
          · have h0 := hgood (by omega) c78 (by omega)
            subst h0
            have f0 := fill (by
              rcases hE with e | e | e
              · omega
              · omega
              · exact e) 0 (by omega)
            rw [show (fun i => if L ≤ i ∧ i < L + ((0 : Nat) : Int) then z % 18446744073709551616 / 256 ^ (L + k - 1 - i).toNat % 256 else P i) = P from funext fun i => if_neg (by omega), zsu_self hP] at f0
            refine x_iconst C dX6_put_105 ?_
            refine x_istore C dX6_put_106 (by decide) ?_
            exact x_wk C rfl f0
          · refine x_bipush C dX6_put_102 (by decide) ?_
            exact x_iret (st := []) C dX6_put_104 rfl (by
  have h0 := hgood (by omega) c78 (by omega)
  rcases hE with e | e | e
  · omega
  · exact ⟨congrArg (fun z => some (zi z)) e.1.symm, rfl, e.2.2.2.symm, rfl⟩
  · omega)
        · refine x_bipush C dX6_put_88 (by decide) ?_
          exact x_iret (st := []) C dX6_put_90 rfl (by
  have h0 : k = 0 := hbad (by first | exact Or.inl (by omega) | exact Or.inr (Or.inl c78) | exact Or.inr (Or.inr (by omega)))
  rcases hE with e | e | e
  · exact ⟨congrArg (fun z => some (zi z)) e.1.symm, rfl, e.2.2.symm, rfl⟩
  · omega
  · omega)
  have loop : ∀ i : Nat, i ≤ 8 → ∀ b : Bool, (∀ j : Nat, j < i → z % 18446744073709551616 / 256 ^ j % 256 ≠ 0) → (b = true ↔ ∀ j : Nat, j < i → 33 ≤ z % 18446744073709551616 / 256 ^ j % 256 ∧ z % 18446744073709551616 / 256 ^ j % 256 ≤ 126) → K 13 [some (zr 145), some (zl z), none, some (zi (i : Int)), some (zl (zrst z i)), none, some (zi (zb b)), none] [] n σ 0 := by
    refine zloop _ 8 (fun i hi ih => ?_)
    intro b hnz hb
    have hri := zrst_in hz i
    have hrm := zrst_m z i
    have hrs := zrst_s z i
    have h256 := Int.emod_nonneg (zrst z i) (show (256 : Int) ≠ 0 by decide)
    have h2562 := Int.emod_lt_of_pos (zrst z i) (show (0 : Int) < 256 by decide)
    refine x_iload_n C dX6_put_13 rfl ?_
    refine x_bipush C dX6_put_14 (by decide) ?_
    refine x_icmp_ge (tgt := 72) C dX6_put_16 (by decide) (by omega) (fun c16 => ?_) (fun c16 => ?_)
    · exact fin i b hi (by omega) hnz hb
    · refine x_lload C dX6_put_19 rfl ?_
      refine x_ldc2 (v := 255) C dX6_put_21 kcX6_193 (by decide) ?_
      refine x_land C dX6_put_24 ?_
      rw [zandl_255]
      refine x_lconst C dX6_put_25 ?_
      refine x_lcmp C dX6_put_26 (by omega) (fun r26 q26 => ?_)
      refine x_if_eq (tgt := 72) C dX6_put_27 (by decide) (by omega) (fun c27 => ?_) (fun c27 => ?_)
      · have hb0 : z % 18446744073709551616 / 256 ^ i % 256 = 0 := by rw [← hrm]; omega
        exact fin i b hi (Or.inr hb0) hnz hb
      · have hb0 : z % 18446744073709551616 / 256 ^ i % 256 ≠ 0 := by rw [← hrm]; omega
        refine x_iload C dX6_put_30 rfl ?_
        refine x_ifeq_b (tgt := 56) C dX6_put_32 (by decide) (fun c32 => ?_) (fun c32 => ?_)
        · have eb : (false = true ↔ ∀ j : Nat, j < i + 1 → 33 ≤ z % 18446744073709551616 / 256 ^ j % 256 ∧ z % 18446744073709551616 / 256 ^ j % 256 ≤ 126) := ⟨fun q => (by cases q), fun q => (by rw [← c32]; exact hb.mpr (fun j hj => q j (by omega)))⟩
          refine x_iconst C dX6_put_56 ?_
          have ih := ih (by omega) _ (fun j hj => (by
            by_cases q : j < i
            · exact hnz j q
            · rw [show j = i by omega]; exact hb0)) eb
          refine x_istore C dX6_put_57 (by decide) ?_
          refine x_lload C dX6_put_59 rfl ?_
          refine x_bipush C dX6_put_61 (by decide) ?_
          refine x_lushr C dX6_put_63 (by decide) ?_
          rw [show (256 : Int) = 2 ^ (8 : Int).toNat from rfl] at hrs
          rw [hrs]
          refine x_lstore C dX6_put_64 (by decide) ?_
          refine x_iinc C dX6_put_66 rfl (by decide) ?_
          refine x_goto (tgt := 13) C dX6_put_69 (by decide) ?_
          exact x_wk C rfl ih
        · refine x_lload C dX6_put_35 rfl ?_
          refine x_ldc2 (v := 255) C dX6_put_37 kcX6_193 (by decide) ?_
          refine x_land C dX6_put_40 ?_
          rw [zandl_255]
          refine x_l2i C dX6_put_41 ?_
          refine x_bipush C dX6_put_42 (by decide) ?_
          refine x_bipush C dX6_put_44 (by decide) ?_
          refine x_callS C dX6_put_46 (ctX6_in _ _ _ (by omega) (by omega) (by omega)) okX6_in lkX6_45 ⟨by decide, rfl, rfl, Nat.le_of_ble_eq_true rfl⟩ rfl (Or.inl ⟨rfl, rfl⟩) ?_
          refine x_ifeq_d (tgt := 56) C dX6_put_49 (by decide) (fun c49 => ?_) (fun c49 => ?_)
          · have eb : (false = true ↔ ∀ j : Nat, j < i + 1 → 33 ≤ z % 18446744073709551616 / 256 ^ j % 256 ∧ z % 18446744073709551616 / 256 ^ j % 256 ≤ 126) := ⟨fun q => (by cases q), fun q => (by have := q i (by omega); rw [← hrm] at this; exact absurd this c49)⟩
            refine x_iconst C dX6_put_56 ?_
            have ih := ih (by omega) _ (fun j hj => (by
              by_cases q : j < i
              · exact hnz j q
              · rw [show j = i by omega]; exact hb0)) eb
            refine x_istore C dX6_put_57 (by decide) ?_
            refine x_lload C dX6_put_59 rfl ?_
            refine x_bipush C dX6_put_61 (by decide) ?_
            refine x_lushr C dX6_put_63 (by decide) ?_
            rw [show (256 : Int) = 2 ^ (8 : Int).toNat from rfl] at hrs
            rw [hrs]
            refine x_lstore C dX6_put_64 (by decide) ?_
            refine x_iinc C dX6_put_66 rfl (by decide) ?_
            refine x_goto (tgt := 13) C dX6_put_69 (by decide) ?_
            exact x_wk C rfl ih
          · have eb : (true = true ↔ ∀ j : Nat, j < i + 1 → 33 ≤ z % 18446744073709551616 / 256 ^ j % 256 ∧ z % 18446744073709551616 / 256 ^ j % 256 ≤ 126) := ⟨fun _ j hj => (by
              by_cases q : j < i
              · exact hb.mp c32 j q
              · rw [show j = i by omega, ← hrm]; exact c49), fun _ => rfl⟩
            refine x_iconst C dX6_put_52 ?_
            refine x_goto (tgt := 57) C dX6_put_53 (by decide) ?_
            have ih := ih (by omega) _ (fun j hj => (by
              by_cases q : j < i
              · exact hnz j q
              · rw [show j = i by omega]; exact hb0)) eb
            refine x_istore C dX6_put_57 (by decide) ?_
            refine x_lload C dX6_put_59 rfl ?_
            refine x_bipush C dX6_put_61 (by decide) ?_
            refine x_lushr C dX6_put_63 (by decide) ?_
            rw [show (256 : Int) = 2 ^ (8 : Int).toNat from rfl] at hrs
            rw [hrs]
            refine x_lstore C dX6_put_64 (by decide) ?_
            refine x_iinc C dX6_put_66 rfl (by decide) ?_
            refine x_goto (tgt := 13) C dX6_put_69 (by decide) ?_
            exact x_wk C rfl ih
  refine x_aload_n C dX6_put_0 rfl ?_
  refine x_iconst C dX6_put_1 ?_
  refine x_putI C dX6_put_2 lfX6_41 lyX6_0 hM (by omega) (Nat.le_of_ble_eq_true rfl) ?_
  refine x_nm (fun s2 e2 => ?_)
  rw [show s2 = σ from e2.trans (zsu_self hM)]
  clear e2 s2
  refine x_iconst C dX6_put_5 ?_
  refine x_istore_n C dX6_put_6 (by decide) ?_
  refine x_lload_n C dX6_put_7 rfl ?_
  refine x_lstore C dX6_put_8 (by decide) ?_
  refine x_iconst C dX6_put_10 ?_
  refine x_istore C dX6_put_11 (by decide) ?_
  exact x_wk C rfl (loop 0 (by omega) true (fun j hj => absurd hj (by omega)) ⟨fun _ j hj => absurd hj (by omega), fun _ => rfl⟩)
end
