section
variable {n : Nat} {σ : zS} {P f : Int → Int} {um L : Int}
theorem zp2_s {l : Nat} (h : l ≤ 2) : zp2 ((l : Int) + 1) = 2 * zp2 l := by
  have h3 : l = 0 ∨ l = 1 ∨ l = 2 := by omega
  rcases h3 with rfl | rfl | rfl <;> decide
theorem zgoK {R : zRVs} {V : Int → Bool × Int × Int} (hP : σ 151 = zA 80 P) (hn : 155 ≤ n) (hm : isPm P f L) (Rd Va Ot : Int → Int) : ∀ l : Nat, l ≤ 3 → ∀ (br bc : Int) (S : zPS), (0 ≤ br ∧ br < zp2 l) → (0 ≤ bc ∧ bc < zp2 l) → (0 ≤ S.p ∧ S.p ≤ 80) → ∃ (b : Bool) (p2 : Int) (w2 : Bool) (l2 : Nat) (br2 bc2 : Int), (∀ K : zKT, zX yX6_goesOn cX6_goesOn 1 (some .boolean) 3 0 0 n (fun v n1 σ1 w => v = some (zi (zb b)) ∧ n1 = n ∧ σ1 = zqm σ um L p2 w2 l2 br2 bc2 Rd Va Ot ∧ w = 0) K → K 0 [some (zr 145)] [] n (zqm σ um L S.p true l br bc Rd Va Ot) 0) ∧ (S.p ≤ p2 ∧ p2 ≤ 80) ∧ ((b = true ∧ w2 = true ∧ zKc R V f L l br bc (true, S) = (true, S.sp p2 S.x)) ∨ (b = false ∧ w2 = false ∧ zKc R V f L l br bc (true, S) = (false, S.sp p2 S.x)) ∨ (b = false ∧ w2 = true ∧ (l2 ≤ 3 ∧ (0 ≤ br2 ∧ br2 < zp2 l2) ∧ 0 ≤ bc2 ∧ bc2 < zp2 l2) ∧ zKc R V f L l br bc (true, S) = zKc R V f L l2 br2 bc2 (zGB R V f L l2 br2 bc2 (S.sp p2 S.x)))) := by
  intro l
  induction l with
  | zero =>
    intro _ br bc S hb hc hp
    refine ⟨true, S.p, true, 0, br, bc, fun K C => ?_, ⟨Int.le_refl _, hp.2⟩, Or.inl ⟨rfl, rfl, rfl⟩⟩
    have hM := zqm_M (σ := σ) (um := um) (L := L) (p := S.p) (w := true) (lv := ((0 : Nat) : Int)) (br := br) (bc := bc) (Rd := Rd) (Va := Va) (Ot := Ot)
    refine x_aload_n C dX6_goesOn_0 rfl ?_
    refine x_getfield C dX6_goesOn_1 lfX6_211 hM (by omega) rfl ?_
    refine x_if_le (tgt := 75) C dX6_goesOn_4 (by decide) (by omega) (fun c4 => ?_) (fun c4 => ?_)
    · refine x_aload_n C dX6_goesOn_75 rfl ?_
      refine x_getfield C dX6_goesOn_76 lfX6_211 hM (by omega) rfl ?_
      refine x_if_ne (tgt := 84) C dX6_goesOn_79 (by decide) (by omega) (fun c79 => ?_) (fun c79 => ?_)
      · exfalso; omega
      · refine x_iconst C dX6_goesOn_82 ?_
        exact x_zret (st := []) (b := true) C dX6_goesOn_83 rfl ⟨rfl, rfl, rfl, rfl⟩
    · exfalso; omega
  | succ l ih =>
    intro hl3 br bc S hb hc hp
    have hz2 := zp2_s (l := l) (by omega)
    have hpl := zp2_v (d := (l : Int)) (by omega)
    rw [show ((l + 1 : Nat) : Int) = (l : Int) + 1 by omega] at hb hc ⊢
    have hM := zqm_M (σ := σ) (um := um) (L := L) (p := S.p) (w := true) (lv := (l : Int) + 1) (br := br) (bc := bc) (Rd := Rd) (Va := Va) (Ot := Ot)
    by_cases hq : br % 2 = 1 ∧ bc % 2 = 1
    · have hpp := zpp_in (f := f) (L := L) (p := S.p) 41 ⟨hp.2, hm.1.2⟩
      have cw := zqc_w (um := um) (w := true) (lv := (l : Int) + 1) (br := br) (bc := bc) (Rd := Rd) (Va := Va) (Ot := Ot) hP hn hm hp 41 (by decide)
      rw [if_pos rfl, Bool.true_and] at cw
      have eK := zKc_close (R := R) (V := V) (f := f) (L := L) (l := l) S hq
      by_cases hk : zpk f L S.p 41 = true
      · obtain ⟨b, p2, w2, l2, br2, bc2, g1, g2, g3⟩ := ih (by omega) (br / 2) (bc / 2) (zpa f L 41 S) (by omega) (by omega) ⟨by show 0 ≤ zpp f L S.p 41; omega, hpp.2⟩
        refine ⟨b, p2, w2, l2, br2, bc2, fun K C => ?_, ⟨Int.le_trans hpp.1 g2.1, g2.2⟩, ?_⟩
        rotate_left
        · rw [eK, hk]
          exact g3
        have g1 := g1 K C
        rw [show (zpa f L 41 S).p = zpp f L S.p 41 from rfl] at g1
        rw [hk] at cw
        refine x_aload_n C dX6_goesOn_0 rfl ?_
        refine x_getfield C dX6_goesOn_1 lfX6_211 hM (by omega) rfl ?_
        refine x_if_le (tgt := 75) C dX6_goesOn_4 (by decide) (by omega) (fun c4 => ?_) (fun c4 => ?_)
        · exfalso; omega
        · refine x_aload_n C dX6_goesOn_7 rfl ?_
          refine x_getfield C dX6_goesOn_8 lfX6_214 hM (by omega) rfl ?_
          refine x_iconst C dX6_goesOn_11 ?_
          refine x_irem C dX6_goesOn_12 (by omega) ?_
          refine x_iconst C dX6_goesOn_13 ?_
          refine x_icmp_ne (tgt := 75) C dX6_goesOn_14 (by decide) (by omega) (fun c14 => ?_) (fun c14 => ?_)
          · exact absurd hq.1 c14
          · refine x_aload_n C dX6_goesOn_17 rfl ?_
            refine x_getfield C dX6_goesOn_18 lfX6_217 hM (by omega) rfl ?_
            refine x_iconst C dX6_goesOn_21 ?_
            refine x_irem C dX6_goesOn_22 (by omega) ?_
            refine x_iconst C dX6_goesOn_23 ?_
            refine x_icmp_ne (tgt := 75) C dX6_goesOn_24 (by decide) (by omega) (fun c24 => ?_) (fun c24 => ?_)
            · exact absurd hq.2 c24
            · refine x_aload_n C dX6_goesOn_27 rfl ?_
              refine x_bipush C dX6_goesOn_28 (by decide) ?_
              refine x_callV C dX6_goesOn_30 cw okX6_wants lkX6_230 ⟨⟨hM, rfl, rfl⟩, (by omega)⟩ ⟨by decide, rfl, rfl, Nat.le_of_ble_eq_true rfl⟩ rfl (Or.inl ⟨rfl, rfl⟩) ?_
              have hM := zqm_M (σ := σ) (um := um) (L := L) (p := zpp f L S.p 41) (w := true) (lv := (l : Int) + 1) (br := br) (bc := bc) (Rd := Rd) (Va := Va) (Ot := Ot)
              refine x_aload_n C dX6_goesOn_33 rfl ?_
              refine x_getfield C dX6_goesOn_34 lfX6_198 hM (by omega) rfl ?_
              refine x_ifne_b (tgt := 42) C dX6_goesOn_37 (by decide) (fun c37 => ?_) (fun c37 => ?_)
              · refine x_aload_n C dX6_goesOn_42 rfl ?_
                refine x_dup C dX6_goesOn_43 rfl ?_
                refine x_getfield C dX6_goesOn_44 lfX6_211 hM (by omega) rfl ?_
                refine x_iconst C dX6_goesOn_47 ?_
                refine x_isub C dX6_goesOn_48 ?_
                refine x_putI C dX6_goesOn_49 lfX6_211 lyX6_14 hM (by omega) (Nat.le_of_ble_eq_true rfl) ?_
                refine x_nm (fun s49 e49 => ?_)
                have hM := (congrFun e49 145).trans (zsu_s _ _ _)
                refine x_aload_n C dX6_goesOn_52 rfl ?_
                refine x_dup C dX6_goesOn_53 rfl ?_
                refine x_getfield C dX6_goesOn_54 lfX6_214 hM (by omega) rfl ?_
                refine x_iconst C dX6_goesOn_57 ?_
                refine x_idiv C dX6_goesOn_58 (by omega) ?_
                refine x_putI C dX6_goesOn_59 lfX6_214 lyX6_15 hM (by omega) (Nat.le_of_ble_eq_true rfl) ?_
                refine x_nm (fun s59 e59 => ?_)
                have hM := (congrFun e59 145).trans (zsu_s _ _ _)
                refine x_aload_n C dX6_goesOn_62 rfl ?_
                refine x_dup C dX6_goesOn_63 rfl ?_
                refine x_getfield C dX6_goesOn_64 lfX6_217 hM (by omega) rfl ?_
                refine x_iconst C dX6_goesOn_67 ?_
                refine x_idiv C dX6_goesOn_68 (by omega) ?_
                refine x_putI C dX6_goesOn_69 lfX6_217 lyX6_16 hM (by omega) (Nat.le_of_ble_eq_true rfl) ?_
                refine x_nm (fun s69 e69 => ?_)
                have hM := (congrFun e69 145).trans (zsu_s _ _ _)
                rw [show s69 = zqm σ um L (zpp f L S.p 41) true l (br / 2) (bc / 2) Rd Va Ot by
                  rw [e69, e59, e49, zsu_u, zsu_u, show (l : Int) + 1 - 1 = l by omega]
                  exact zqm_sM (zpp f L S.p 41) true l (br / 2) (bc / 2)]
                refine x_goto (tgt := 0) C dX6_goesOn_72 (by decide) ?_
                exact g1
              · cases c37
      · have hk0 : zpk f L S.p 41 = false := by cases h : zpk f L S.p 41; rfl; exact absurd h hk
        refine ⟨false, zpp f L S.p 41, false, l + 1, br, bc, fun K C => ?_, ⟨hpp.1, hpp.2⟩, Or.inr (Or.inl ⟨rfl, rfl, ?_⟩)⟩
        rotate_left
        · rw [eK, hk0]
          exact zKc_f _ _ _ _ rfl
        rw [hk0] at cw
        refine x_aload_n C dX6_goesOn_0 rfl ?_
        refine x_getfield C dX6_goesOn_1 lfX6_211 hM (by omega) rfl ?_
        refine x_if_le (tgt := 75) C dX6_goesOn_4 (by decide) (by omega) (fun c4 => ?_) (fun c4 => ?_)
        · exfalso; omega
        · refine x_aload_n C dX6_goesOn_7 rfl ?_
          refine x_getfield C dX6_goesOn_8 lfX6_214 hM (by omega) rfl ?_
          refine x_iconst C dX6_goesOn_11 ?_
          refine x_irem C dX6_goesOn_12 (by omega) ?_
          refine x_iconst C dX6_goesOn_13 ?_
          refine x_icmp_ne (tgt := 75) C dX6_goesOn_14 (by decide) (by omega) (fun c14 => ?_) (fun c14 => ?_)
          · exact absurd hq.1 c14
          · refine x_aload_n C dX6_goesOn_17 rfl ?_
            refine x_getfield C dX6_goesOn_18 lfX6_217 hM (by omega) rfl ?_
            refine x_iconst C dX6_goesOn_21 ?_
            refine x_irem C dX6_goesOn_22 (by omega) ?_
            refine x_iconst C dX6_goesOn_23 ?_
            refine x_icmp_ne (tgt := 75) C dX6_goesOn_24 (by decide) (by omega) (fun c24 => ?_) (fun c24 => ?_)
            · exact absurd hq.2 c24
            · refine x_aload_n C dX6_goesOn_27 rfl ?_
              refine x_bipush C dX6_goesOn_28 (by decide) ?_
              refine x_callV C dX6_goesOn_30 cw okX6_wants lkX6_230 ⟨⟨hM, rfl, rfl⟩, (by omega)⟩ ⟨by decide, rfl, rfl, Nat.le_of_ble_eq_true rfl⟩ rfl (Or.inl ⟨rfl, rfl⟩) ?_
              have hM := zqm_M (σ := σ) (um := um) (L := L) (p := zpp f L S.p 41) (w := false) (lv := (l : Int) + 1) (br := br) (bc := bc) (Rd := Rd) (Va := Va) (Ot := Ot)
              refine x_aload_n C dX6_goesOn_33 rfl ?_
              refine x_getfield C dX6_goesOn_34 lfX6_198 hM (by omega) rfl ?_
              refine x_ifne_b (tgt := 42) C dX6_goesOn_37 (by decide) (fun c37 => ?_) (fun c37 => ?_)
              · cases c37
              · refine x_iconst C dX6_goesOn_40 ?_
                exact x_zret (st := []) (b := false) C dX6_goesOn_41 rfl ⟨rfl, rfl, rfl, rfl⟩
    · obtain ⟨bc2, hbc2⟩ : ∃ x, x = bc + (if bc % 2 = 0 then 1 else -1) := ⟨_, rfl⟩
      have eK := zKc_next (R := R) (V := V) (f := f) (L := L) (l := l) (by omega) (br := br) (bc := bc) (br2 := br + bc % 2) (bc2 := bc2) S hq rfl hbc2
      refine ⟨false, S.p, true, l + 1, br + bc % 2, bc2, fun K C => ?_, ⟨Int.le_refl _, hp.2⟩, Or.inr (Or.inr ⟨rfl, rfl, ⟨hl3, ?_, ?_⟩, eK⟩)⟩
      rotate_left
      · rw [show ((l + 1 : Nat) : Int) = (l : Int) + 1 by omega]
        omega
      · rw [show ((l + 1 : Nat) : Int) = (l : Int) + 1 by omega, hbc2]
        split <;> omega
      rw [show ((l + 1 : Nat) : Int) = (l : Int) + 1 by omega] at C
      have next : K 75 [some (zr 145)] [] n (zqm σ um L S.p true ((l : Int) + 1) br bc Rd Va Ot) 0 := by
        refine x_aload_n C dX6_goesOn_75 rfl ?_
        refine x_getfield C dX6_goesOn_76 lfX6_211 hM (by omega) rfl ?_
        refine x_if_ne (tgt := 84) C dX6_goesOn_79 (by decide) (by omega) (fun c79 => ?_) (fun c79 => ?_)
        · refine x_aload_n C dX6_goesOn_84 rfl ?_
          refine x_dup C dX6_goesOn_85 rfl ?_
          refine x_getfield C dX6_goesOn_86 lfX6_214 hM (by omega) rfl ?_
          refine x_aload_n C dX6_goesOn_89 rfl ?_
          refine x_getfield C dX6_goesOn_90 lfX6_217 hM (by omega) rfl ?_
          refine x_iconst C dX6_goesOn_93 ?_
          refine x_irem C dX6_goesOn_94 (by omega) ?_
          refine x_iadd C dX6_goesOn_95 ?_
          refine x_putI C dX6_goesOn_96 lfX6_214 lyX6_15 hM (by omega) (Nat.le_of_ble_eq_true rfl) ?_
          refine x_nm (fun s96 e96 => ?_)
          have hM := (congrFun e96 145).trans (zsu_s _ _ _)
          refine x_aload_n C dX6_goesOn_99 rfl ?_
          refine x_dup C dX6_goesOn_100 rfl ?_
          refine x_getfield C dX6_goesOn_101 lfX6_217 hM (by omega) rfl ?_
          refine x_aload_n C dX6_goesOn_104 rfl ?_
          refine x_getfield C dX6_goesOn_105 lfX6_217 hM (by omega) rfl ?_
          refine x_iconst C dX6_goesOn_108 ?_
          refine x_irem C dX6_goesOn_109 (by omega) ?_
          refine x_if_ne (tgt := 117) C dX6_goesOn_110 (by decide) (by omega) (fun c110 => ?_) (fun c110 => ?_)
          · have hv : bc + (-1) = bc2 := by rw [hbc2, if_neg c110]
            refine x_iconst C dX6_goesOn_117 ?_
            refine x_iadd C dX6_goesOn_118 ?_
            refine x_putI C dX6_goesOn_119 lfX6_217 lyX6_16 hM (by omega) (Nat.le_of_ble_eq_true rfl) ?_
            refine x_nm (fun s119 e119 => ?_)
            have hM := (congrFun e119 145).trans (zsu_s _ _ _)
            refine x_iconst C dX6_goesOn_122 ?_
            exact x_zret (st := []) (b := false) C dX6_goesOn_123 rfl ⟨rfl, rfl, by
  rw [e119, e96, zsu_u, hv]
  exact zqm_sM S.p true ((l : Int) + 1) (br + bc % 2) bc2, rfl⟩
          · have hv : bc + 1 = bc2 := by rw [hbc2, if_pos c110]
            refine x_iconst C dX6_goesOn_113 ?_
            refine x_goto (tgt := 118) C dX6_goesOn_114 (by decide) ?_
            refine x_iadd C dX6_goesOn_118 ?_
            refine x_putI C dX6_goesOn_119 lfX6_217 lyX6_16 hM (by omega) (Nat.le_of_ble_eq_true rfl) ?_
            refine x_nm (fun s119 e119 => ?_)
            have hM := (congrFun e119 145).trans (zsu_s _ _ _)
            refine x_iconst C dX6_goesOn_122 ?_
            exact x_zret (st := []) (b := false) C dX6_goesOn_123 rfl ⟨rfl, rfl, by
  rw [e119, e96, zsu_u, hv]
  exact zqm_sM S.p true ((l : Int) + 1) (br + bc % 2) bc2, rfl⟩
        · exfalso; omega
      refine x_aload_n C dX6_goesOn_0 rfl ?_
      refine x_getfield C dX6_goesOn_1 lfX6_211 hM (by omega) rfl ?_
      refine x_if_le (tgt := 75) C dX6_goesOn_4 (by decide) (by omega) (fun c4 => ?_) (fun c4 => ?_)
      · exfalso; omega
      · refine x_aload_n C dX6_goesOn_7 rfl ?_
        refine x_getfield C dX6_goesOn_8 lfX6_214 hM (by omega) rfl ?_
        refine x_iconst C dX6_goesOn_11 ?_
        refine x_irem C dX6_goesOn_12 (by omega) ?_
        refine x_iconst C dX6_goesOn_13 ?_
        refine x_icmp_ne (tgt := 75) C dX6_goesOn_14 (by decide) (by omega) (fun c14 => ?_) (fun c14 => ?_)
        · exact next
        · refine x_aload_n C dX6_goesOn_17 rfl ?_
          refine x_getfield C dX6_goesOn_18 lfX6_217 hM (by omega) rfl ?_
          refine x_iconst C dX6_goesOn_21 ?_
          refine x_irem C dX6_goesOn_22 (by omega) ?_
          refine x_iconst C dX6_goesOn_23 ?_
          refine x_icmp_ne (tgt := 75) C dX6_goesOn_24 (by decide) (by omega) (fun c24 => ?_) (fun c24 => ?_)
          · exact next
          · exact absurd ⟨c14, c24⟩ hq
theorem zrdK {R : zRVs} {V : Int → Bool × Int × Int} (h : isKT R V f L) (hP : σ 151 = zA 80 P) (hn : 155 ≤ n) (hm : isPm P f L) (T0 : Bool × zPS) : ∀ j : Nat, j ≤ 82 → ∀ (l : Nat) (br bc : Int) (S : zPS) (Rd Va Ot : Int → Int), l ≤ 3 → (0 ≤ br ∧ br < zp2 l) → (0 ≤ bc ∧ bc < zp2 l) → ((j : Int) ≤ S.p ∧ S.p ≤ 80) → zMt Rd S → T0 = zKc R V f L l br bc (zGB R V f L l br bc S) → ∃ (p2 : Int) (w2 : Bool) (l2 : Nat) (br2 bc2 : Int) (Rd2 Va2 Ot2 : Int → Int), (∀ K : zKT, zX yX6_reads cX6_reads 2 (some .int) 7 0 0 n (fun v n1 σ1 w => v = some (zi (if zwl L T0 = true then -6 else T0.2.p)) ∧ n1 = n ∧ σ1 = zqm σ um L p2 w2 l2 br2 bc2 Rd2 Va2 Ot2 ∧ w = 0) K → K 27 [some (zr 145), some (zi 0)] [] n (zqm σ um L S.p true l br bc Rd Va Ot) 0) ∧ (T0.1 = true → zMt Rd2 T0.2) ∧ zRk Rd Rd2 := by
  have hL := hm.1
  -- the end of the loop
  have fin : ∀ (p2 : Int) (w2 : Bool) (l2 : Nat) (br2 bc2 : Int) (Rd2 Va2 Ot2 : Int → Int) (b : Bool), (0 ≤ p2 ∧ p2 ≤ 80) → (w2 = false ∨ b = true) → w2 = T0.1 → p2 = T0.2.p → ∀ K : zKT, zX yX6_reads cX6_reads 2 (some .int) 7 0 0 n (fun v n1 σ1 w => v = some (zi (if zwl L T0 = true then -6 else T0.2.p)) ∧ n1 = n ∧ σ1 = zqm σ um L p2 w2 l2 br2 bc2 Rd2 Va2 Ot2 ∧ w = 0) K → K 27 [some (zr 145), some (zi (zb b))] [] n (zqm σ um L p2 w2 l2 br2 bc2 Rd2 Va2 Ot2) 0 := by
    intro p2 w2 l2 br2 bc2 Rd2 Va2 Ot2 b hp2 hwb hw hpp K C
    have hM := zqm_M (σ := σ) (um := um) (L := L) (p := p2) (w := w2) (lv := (l2 : Int)) (br := br2) (bc := bc2) (Rd := Rd2) (Va := Va2) (Ot := Ot2)
    have part : K 89 [some (zr 145), some (zi (zb b))] [] n (zqm σ um L p2 w2 l2 br2 bc2 Rd2 Va2 Ot2) 0 := by
      refine x_aload_n C dX6_reads_89 rfl ?_
      refine x_getfield C dX6_reads_90 lfX6_198 hM (by omega) rfl ?_
      refine x_ifeq_b (tgt := 112) C dX6_reads_93 (by decide) (fun c93 => ?_) (fun c93 => ?_)
      · have eR : (if zwl L T0 = true then (-6 : Int) else T0.2.p) = p2 := by
          rw [zwl, ← hw, c93, hpp]
          exact if_neg (fun z => by cases z)
        refine x_aload_n C dX6_reads_112 rfl ?_
        refine x_getfield C dX6_reads_113 lfX6_195 hM (by omega) rfl ?_
        exact x_iret (st := []) C dX6_reads_116 rfl ⟨congrArg (fun z => some (zi z)) eR.symm, rfl, rfl, rfl⟩
      · refine x_aload_n C dX6_reads_96 rfl ?_
        refine x_getfield C dX6_reads_97 lfX6_195 hM (by omega) rfl ?_
        refine x_aload_n C dX6_reads_100 rfl ?_
        refine x_getfield C dX6_reads_101 lfX6_115 hM (by omega) rfl ?_
        refine x_icmp_ne (tgt := 112) C dX6_reads_104 (by decide) (by omega) (fun c104 => ?_) (fun c104 => ?_)
        · have eR : (if zwl L T0 = true then (-6 : Int) else T0.2.p) = p2 := by
            rw [zwl, ← hw, c93, ← hpp, decide_eq_false c104]
            exact if_neg (fun z => by cases z)
          refine x_aload_n C dX6_reads_112 rfl ?_
          refine x_getfield C dX6_reads_113 lfX6_195 hM (by omega) rfl ?_
          exact x_iret (st := []) C dX6_reads_116 rfl ⟨congrArg (fun z => some (zi z)) eR.symm, rfl, rfl, rfl⟩
        · have eR : (if zwl L T0 = true then (-6 : Int) else T0.2.p) = -6 := by
            rw [zwl, ← hw, c93, ← hpp, decide_eq_true (by omega)]
            exact if_pos rfl
          refine x_bipush C dX6_reads_107 (by decide) ?_
          refine x_goto (tgt := 116) C dX6_reads_109 (by decide) ?_
          exact x_iret (st := []) C dX6_reads_116 rfl ⟨congrArg (fun z => some (zi z)) eR.symm, rfl, rfl, rfl⟩
    refine x_aload_n C dX6_reads_27 rfl ?_
    refine x_getfield C dX6_reads_28 lfX6_198 hM (by omega) rfl ?_
    refine x_ifeq_b (tgt := 89) C dX6_reads_31 (by decide) (fun c31 => ?_) (fun c31 => ?_)
    · exact part
    · refine x_iload_n C dX6_reads_34 rfl ?_
      refine x_ifne_b (tgt := 89) C dX6_reads_35 (by decide) (fun c35 => ?_) (fun c35 => ?_)
      · exact part
      · rcases hwb with q | q
        · rw [c31] at q; cases q
        · rw [c35] at q; cases q
  refine zloop _ 82 (fun j hj ih => ?_)
  intro l br bc S Rd Va Ot hl3 hb hc hp hMt hT0
  have hl03 : (0 : Int) ≤ l ∧ (l : Int) ≤ 3 := by omega
  have hlr := hm.l S.p
  have hLt := zqc_l (um := um) (w := true) (lv := (l : Int)) (br := br) (bc := bc) (Rd := Rd) (Va := Va) (Ot := Ot) hP hn hm (show 0 ≤ S.p ∧ S.p ≤ 80 by omega)
  have hM := zqm_M (σ := σ) (um := um) (L := L) (p := S.p) (w := true) (lv := (l : Int)) (br := br) (bc := bc) (Rd := Rd) (Va := Va) (Ot := Ot)
  by_cases hdn : zlr f L S.p = 40 ∧ l ≤ 2
  · -- a block that is cut
    have hk : zpk f L S.p 40 = true := by rw [zlr_k (by decide), decide_eq_true hdn.1]
    have hlt := zpk_in hk
    have hpl := zp2_v (d := (l : Int)) (by omega)
    have hz2 := zp2_s (l := l) hdn.2
    have hzz := zmn_in hl03 hb hc
    have eP : (zlc l (br * zsz l) (bc * zsz l) (zpa f L 40 S)).p = S.p + 1 := zpp_t hk
    have hMt2 : zMt (zu Rd (zmn l br bc) 3) (zlc l (br * zsz l) (bc * zsz l) (zpa f L 40 S)) := by
      refine ⟨fun i i1 i2 => ?_, fun i i1 i2 => ?_⟩
      · rw [zu_n _ _ (by omega)]
        exact hMt.1 i i1 i2
      · show zu S.t (zno l (br * zsz l) (bc * zsz l)) 3 i = _
        rw [zno_b hl03]
        unfold zu
        split
        · rfl
        · exact hMt.2 i i1 i2
    obtain ⟨p2, w2, l2, br2, bc2, Rd2, Va2, Ot2, g1, g2⟩ := ih (by omega) (l + 1) (2 * br) (2 * bc) (zlc l (br * zsz l) (bc * zsz l) (zpa f L 40 S)) (zu Rd (zmn l br bc) 3) Va Ot (by omega) (by rw [show ((l + 1 : Nat) : Int) = (l : Int) + 1 by omega]; omega) (by rw [show ((l + 1 : Nat) : Int) = (l : Int) + 1 by omega]; omega) (by rw [eP]; omega) hMt2 (by rw [hT0]; exact zGB_down hdn.2 br bc S hdn.1)
    refine ⟨p2, w2, l2, br2, bc2, Rd2, Va2, Ot2, fun K C => ?_, g2.1, (zRk.u _ _ (by decide)).tr g2.2⟩
    have g1 := g1 K C
    rw [eP, show ((l + 1 : Nat) : Int) = (l : Int) + 1 by omega, Int.mul_comm 2 br, Int.mul_comm 2 bc] at g1
    refine x_aload_n C dX6_reads_27 rfl ?_
    refine x_getfield C dX6_reads_28 lfX6_198 hM (by omega) rfl ?_
    refine x_ifeq_b (tgt := 89) C dX6_reads_31 (by decide) (fun c31 => ?_) (fun c31 => ?_)
    · cases c31
    · refine x_iload_n C dX6_reads_34 rfl ?_
      refine x_if_ne (tgt := 89) C dX6_reads_35 (by decide) (by omega) (fun c35 => ?_) (fun c35 => ?_)
      · exact absurd rfl c35
      · refine x_aload_n C dX6_reads_38 rfl ?_
        refine x_callV C dX6_reads_39 hLt okX6_letter lkX6_202 ⟨⟨hM, rfl, rfl⟩, (by omega)⟩ ⟨by decide, rfl, rfl, Nat.le_of_ble_eq_true rfl⟩ rfl (Or.inl ⟨rfl, rfl⟩) ?_
        refine x_bipush C dX6_reads_42 (by decide) ?_
        refine x_icmp_ne (tgt := 62) C dX6_reads_44 (by decide) (by omega) (fun c44 => ?_) (fun c44 => ?_)
        · exact absurd hdn.1 c44
        · refine x_aload_n C dX6_reads_47 rfl ?_
          refine x_getfield C dX6_reads_48 lfX6_211 hM (by omega) rfl ?_
          refine x_iconst C dX6_reads_51 ?_
          refine x_icmp_ge (tgt := 62) C dX6_reads_52 (by decide) (by omega) (fun c52 => ?_) (fun c52 => ?_)
          · exfalso; omega
          · refine x_aload_n C dX6_reads_55 rfl ?_
            refine x_callV C dX6_reads_56 (ctX6_goesDown hn (by omega) hb hc) okX6_goesDown lkX6_233 ⟨⟨hM, rfl, rfl⟩, (by omega)⟩ ⟨by decide, rfl, rfl, Nat.le_of_ble_eq_true rfl⟩ rfl (Or.inl ⟨rfl, rfl⟩) ?_
            refine x_goto (tgt := 27) C dX6_reads_59 (by decide) ?_
            exact g1
  · -- another block
    have eG : zGB R V f L l br bc S = zR0 R V f L l (br * zsz l) (bc * zsz l) S (false, S) := by
      refine zGB_leaf br bc S ?_ hl3
      by_cases q : l = 3
      · exact Or.inl q
      · exact Or.inr (fun z => hdn ⟨z, by omega⟩)
    rw [eG] at hT0
    obtain ⟨p2, w2, Rd2, Va2, Ot2, c1, c2, c3, c4, c5, c6, c7⟩ := ctX6_readsBlock (um := um) (Va := Va) (Ot := Ot) h hP hn hm hl03 hb hc S (by omega) hMt
    generalize zR0 R V f L l (br * zsz l) (bc * zsz l) S (false, S) = T at *
    have to62 : ∀ K : zKT, ∀ Y : zRT, zX yX6_reads cX6_reads 2 (some .int) 7 0 0 n Y K → K 62 [some (zr 145), some (zi 0)] [] n (zqm σ um L S.p true l br bc Rd Va Ot) 0 → K 27 [some (zr 145), some (zi 0)] [] n (zqm σ um L S.p true l br bc Rd Va Ot) 0 := by
      intro K Y C k62
      refine x_aload_n C dX6_reads_27 rfl ?_
      refine x_getfield C dX6_reads_28 lfX6_198 hM (by omega) rfl ?_
      refine x_ifeq_b (tgt := 89) C dX6_reads_31 (by decide) (fun c31 => ?_) (fun c31 => ?_)
      · cases c31
      · refine x_iload_n C dX6_reads_34 rfl ?_
        refine x_if_ne (tgt := 89) C dX6_reads_35 (by decide) (by omega) (fun c35 => ?_) (fun c35 => ?_)
        · exact absurd rfl c35
        · refine x_aload_n C dX6_reads_38 rfl ?_
          refine x_callV C dX6_reads_39 hLt okX6_letter lkX6_202 ⟨⟨hM, rfl, rfl⟩, (by omega)⟩ ⟨by decide, rfl, rfl, Nat.le_of_ble_eq_true rfl⟩ rfl (Or.inl ⟨rfl, rfl⟩) ?_
          refine x_bipush C dX6_reads_42 (by decide) ?_
          refine x_icmp_ne (tgt := 62) C dX6_reads_44 (by decide) (by omega) (fun c44 => ?_) (fun c44 => ?_)
          · exact k62
          · refine x_aload_n C dX6_reads_47 rfl ?_
            refine x_getfield C dX6_reads_48 lfX6_211 hM (by omega) rfl ?_
            refine x_iconst C dX6_reads_51 ?_
            refine x_icmp_ge (tgt := 62) C dX6_reads_52 (by decide) (by omega) (fun c52 => ?_) (fun c52 => ?_)
            · exact k62
            · exact absurd ⟨c44, by omega⟩ hdn
    by_cases hw : w2 = true
    · subst hw
      have eT : T = (true, T.2.sp T.2.p T.2.x) := by
        rw [c2]
        rfl
      have hT1 : T = (true, T.2) := by
        rw [c2]
      obtain ⟨b, p3, w3, l3, br3, bc3, g1, g2, g3⟩ := zgoK (R := R) (V := V) (um := um) hP hn hm Rd2 Va2 Ot2 l hl3 br bc T.2 hb hc (by rw [← c3]; exact c5)
      rw [← hT1, ← hT0] at g3
      have hgo : zCt 3 0 0 yX6_goesOn cX6_goesOn 1 (some .boolean) [zr 145] n (zqm σ um L p2 true l br bc Rd2 Va2 Ot2) (some (zi (zb b))) n (zqm σ um L p3 w3 l3 br3 bc3 Rd2 Va2 Ot2) := by
        rw [c3]
        exact zCt.of (by decide) rfl (Nat.le_of_ble_eq_true rfl) g1
      have step : ∀ K : zKT, ∀ Y : zRT, zX yX6_reads cX6_reads 2 (some .int) 7 0 0 n Y K → K 27 [some (zr 145), some (zi (zb b))] [] n (zqm σ um L p3 w3 l3 br3 bc3 Rd2 Va2 Ot2) 0 → K 27 [some (zr 145), some (zi 0)] [] n (zqm σ um L S.p true l br bc Rd Va Ot) 0 := by
        intro K Y C k27
        refine to62 K Y C ?_
        refine x_aload_n C dX6_reads_62 rfl ?_
        refine x_callV C dX6_reads_63 c1 okX6_readsBlock lkX6_236 ⟨⟨hM, rfl, rfl⟩, (by omega)⟩ ⟨by decide, rfl, rfl, Nat.le_of_ble_eq_true rfl⟩ rfl (Or.inl ⟨rfl, rfl⟩) ?_
        have hM := zqm_M (σ := σ) (um := um) (L := L) (p := p2) (w := true) (lv := (l : Int)) (br := br) (bc := bc) (Rd := Rd2) (Va := Va2) (Ot := Ot2)
        refine x_aload_n C dX6_reads_66 rfl ?_
        refine x_getfield C dX6_reads_67 lfX6_198 hM (by omega) rfl ?_
        refine x_ifeq_b (tgt := 84) C dX6_reads_70 (by decide) (fun c70 => ?_) (fun c70 => ?_)
        · cases c70
        · refine x_aload_n C dX6_reads_73 rfl ?_
          refine x_callV C dX6_reads_74 hgo okX6_goesOn lkX6_239 ⟨⟨hM, rfl, rfl⟩, (by omega)⟩ ⟨by decide, rfl, rfl, Nat.le_of_ble_eq_true rfl⟩ rfl (Or.inl ⟨rfl, rfl⟩) ?_
          refine x_ifeq_b (tgt := 84) C dX6_reads_77 (by decide) (fun c77 => ?_) (fun c77 => ?_)
          · rw [c77] at k27
            refine x_iconst C dX6_reads_84 ?_
            refine x_istore_n C dX6_reads_85 (by decide) ?_
            refine x_goto (tgt := 27) C dX6_reads_86 (by decide) ?_
            exact k27
          · rw [c77] at k27
            refine x_iconst C dX6_reads_80 ?_
            refine x_goto (tgt := 85) C dX6_reads_81 (by decide) ?_
            refine x_istore_n C dX6_reads_85 (by decide) ?_
            refine x_goto (tgt := 27) C dX6_reads_86 (by decide) ?_
            exact k27
      have hp3 : 0 ≤ p3 ∧ p3 ≤ 80 := by
        rw [← c3] at g2
        omega
      rcases g3 with ⟨k1, k2, k3⟩ | ⟨k1, k2, k3⟩ | ⟨k1, k2, k3, k4⟩
      · refine ⟨p3, w3, l3, br3, bc3, Rd2, Va2, Ot2, fun K C => step K _ C (fin p3 w3 l3 br3 bc3 Rd2 Va2 Ot2 b hp3 (Or.inr k1) (by rw [k2, k3]) (by rw [k3]; rfl) K C), fun _ => ?_, c7⟩
        rw [k3]
        exact c4 rfl
      · refine ⟨p3, w3, l3, br3, bc3, Rd2, Va2, Ot2, fun K C => step K _ C (fin p3 w3 l3 br3 bc3 Rd2 Va2 Ot2 b hp3 (Or.inl k2) (by rw [k2, k3]) (by rw [k3]; rfl) K C), fun z => ?_, c7⟩
        rw [k3] at z
        cases z
      · have c6 := c6 rfl
        have g2 := g2.1
        rw [← c3] at g2
        obtain ⟨p4, w4, l4, br4, bc4, Rd4, Va4, Ot4, m1, m2⟩ := ih (by omega) l3 br3 bc3 (T.2.sp p3 T.2.x) Rd2 Va2 Ot2 k3.1 k3.2.1 k3.2.2 (show ((j + 1 : Nat) : Int) ≤ p3 ∧ p3 ≤ 80 by omega) (c4 rfl) k4
        refine ⟨p4, w4, l4, br4, bc4, Rd4, Va4, Ot4, fun K C => step K _ C ?_, m2.1, c7.tr m2.2⟩
        rw [k1, k2]
        exact m1 K C
    · have hw : w2 = false := by cases w2; rfl; exact absurd rfl hw
      subst hw
      have hTf : T0 = T := by rw [hT0]; exact zKc_f _ _ _ _ c2.symm
      refine ⟨p2, false, l, br, bc, Rd2, Va2, Ot2, fun K C => ?_, fun z => ?_, c7⟩
      · refine to62 K _ C ?_
        have k27 := fin p2 false l br bc Rd2 Va2 Ot2 false c5 (Or.inl rfl) (by rw [hTf]; exact c2) (by rw [hTf]; exact c3) K C
        refine x_aload_n C dX6_reads_62 rfl ?_
        refine x_callV C dX6_reads_63 c1 okX6_readsBlock lkX6_236 ⟨⟨hM, rfl, rfl⟩, (by omega)⟩ ⟨by decide, rfl, rfl, Nat.le_of_ble_eq_true rfl⟩ rfl (Or.inl ⟨rfl, rfl⟩) ?_
        have hM := zqm_M (σ := σ) (um := um) (L := L) (p := p2) (w := false) (lv := (l : Int)) (br := br) (bc := bc) (Rd := Rd2) (Va := Va2) (Ot := Ot2)
        refine x_aload_n C dX6_reads_66 rfl ?_
        refine x_getfield C dX6_reads_67 lfX6_198 hM (by omega) rfl ?_
        refine x_ifeq_b (tgt := 84) C dX6_reads_70 (by decide) (fun c70 => ?_) (fun c70 => ?_)
        · refine x_iconst C dX6_reads_84 ?_
          refine x_istore_n C dX6_reads_85 (by decide) ?_
          refine x_goto (tgt := 27) C dX6_reads_86 (by decide) ?_
          exact k27
        · cases c70
      · rw [hTf, ← c2] at z
        cases z
theorem ctX6_reads {R : zRVs} {V : Int → Bool × Int × Int} (h : isKT R V f L) (hP : σ 151 = zA 80 P) (hn : 155 ≤ n) (hm : isPm P f L) {p lv br bc : Int} {w : Bool} (Rd Va Ot : Int → Int) (S : zPS) (hMt : zMt Rd S) : ∃ (p2 : Int) (w2 : Bool) (l2 : Nat) (br2 bc2 : Int) (Rd2 Va2 Ot2 : Int → Int), zCt 7 0 0 yX6_reads cX6_reads 2 (some .int) [zr 145] n (zqm σ um L p w lv br bc Rd Va Ot) (some (zi (if zwl L (zrd R V f L S) = true then -6 else (zrd R V f L S).2.p))) n (zqm σ um L p2 w2 l2 br2 bc2 Rd2 Va2 Ot2) ∧ ((zrd R V f L S).1 = true → zMt Rd2 (zrd R V f L S).2) ∧ zRk Rd Rd2 := by
  obtain ⟨p2, w2, l2, br2, bc2, Rd2, Va2, Ot2, g1, g2⟩ := zrdK (um := um) h hP hn hm (zrd R V f L S) 0 (by decide) 0 0 0 (S.sp 0 S.x) Rd Va Ot (by decide) (by decide) (by decide) (show ((0 : Nat) : Int) ≤ 0 ∧ (0 : Int) ≤ 80 by decide) hMt (by
    show zrd R V f L S = zGB R V f L 0 0 0 (S.sp 0 S.x)
    unfold zrd zGB
    rfl)
  refine ⟨p2, w2, l2, br2, bc2, Rd2, Va2, Ot2, zCt.of (by decide) rfl (Nat.le_of_ble_eq_true rfl) (fun K C => ?_), g2⟩
  have g1 := g1 K C
  have hM := zqm_M (σ := σ) (um := um) (L := L) (p := p) (w := w) (lv := lv) (br := br) (bc := bc) (Rd := Rd) (Va := Va) (Ot := Ot)
  refine x_aload_n C dX6_reads_0 rfl ?_
  refine x_iconst C dX6_reads_1 ?_
  refine x_putI C dX6_reads_2 lfX6_195 lyX6_9 hM (by omega) (Nat.le_of_ble_eq_true rfl) ?_
  refine x_nm (fun s2 e2 => ?_)
  have hM := (congrFun e2 145).trans (zsu_s _ _ _)
  refine x_aload_n C dX6_reads_5 rfl ?_
  refine x_iconst C dX6_reads_6 ?_
  refine x_putZ C dX6_reads_7 lfX6_198 lyX6_10 (by first | decide | omega) hM (by omega) (Nat.le_of_ble_eq_true rfl) ?_
  refine x_nm (fun s7 e7 => ?_)
  have hM := (congrFun e7 145).trans (zsu_s _ _ _)
  refine x_aload_n C dX6_reads_10 rfl ?_
  refine x_iconst C dX6_reads_11 ?_
  refine x_putI C dX6_reads_12 lfX6_211 lyX6_14 hM (by omega) (Nat.le_of_ble_eq_true rfl) ?_
  refine x_nm (fun s12 e12 => ?_)
  have hM := (congrFun e12 145).trans (zsu_s _ _ _)
  refine x_aload_n C dX6_reads_15 rfl ?_
  refine x_iconst C dX6_reads_16 ?_
  refine x_putI C dX6_reads_17 lfX6_214 lyX6_15 hM (by omega) (Nat.le_of_ble_eq_true rfl) ?_
  refine x_nm (fun s17 e17 => ?_)
  have hM := (congrFun e17 145).trans (zsu_s _ _ _)
  refine x_aload_n C dX6_reads_20 rfl ?_
  refine x_iconst C dX6_reads_21 ?_
  refine x_putI C dX6_reads_22 lfX6_217 lyX6_16 hM (by omega) (Nat.le_of_ble_eq_true rfl) ?_
  refine x_nm (fun s22 e22 => ?_)
  have hM := (congrFun e22 145).trans (zsu_s _ _ _)
  refine x_iconst C dX6_reads_25 ?_
  refine x_istore_n C dX6_reads_26 (by decide) ?_
  rw [show s22 = zqm σ um L 0 true 0 0 0 Rd Va Ot by
    rw [e22, e17, e12, e7, e2, zsu_u, zsu_u, zsu_u, zsu_u]
    exact zqm_sM 0 true 0 0 0]
  exact g1
end
