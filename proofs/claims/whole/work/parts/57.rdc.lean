section
variable {n : Nat} {σ : zS} {P f : Int → Int} {um L p lv br bc : Int} {wl : Bool}
theorem ctX6_readsValues {Va : Int → Int} (hM : σ 145 = zMO um L p wl lv br bc) (hP : σ 151 = zA 80 P) (hV : σ 153 = zA 256 Va) (hn : 155 ≤ n) (hm : isPm P f L) (hp : 0 ≤ p ∧ p ≤ 80) (m : Int) (hmm : 0 ≤ m ∧ m ≤ 256) : zCt 4 0 0 yX6_readsValues cX6_readsValues 5 none [zr 145, zi m] n σ none n (zsu (zsu σ 153 (zA 256 (zmvF f L m wl p Va).2.2)) 145 (zMO um L (zmvF f L m wl p Va).2.1 (zmvF f L m wl p Va).1 lv br bc)) := by
  have hL := hm.1
  obtain ⟨F, hF⟩ : ∃ F, F = zmvF f L m wl p Va := ⟨_, rfl⟩
  rw [← hF]
  have hmem : ∀ (p2 : Int) (w2 : Bool) (V2 : Int → Int), zsu (zsu σ 153 (zA 256 V2)) 145 (zMO um L p2 w2 lv br bc) 145 = zMO um L p2 w2 lv br bc ∧ zsu (zsu σ 153 (zA 256 V2)) 145 (zMO um L p2 w2 lv br bc) 151 = zA 80 P ∧ zsu (zsu σ 153 (zA 256 V2)) 145 (zMO um L p2 w2 lv br bc) 153 = zA 256 V2 := fun p2 w2 V2 => ⟨zsu_s _ _ _, ((zsu_n _ _ (by decide)).trans (zsu_n _ _ (by decide))).trans hP, (zsu_n _ _ (by decide)).trans (zsu_s _ _ _)⟩
  have hval : ∀ (p2 : Int) (w2 : Bool) (V2 : Int → Int), 0 ≤ p2 ∧ p2 ≤ 80 → zCt 3 0 0 yX6_value cX6_value 3 (some .int) [zr 145] n (zsu (zsu σ 153 (zA 256 V2)) 145 (zMO um L p2 w2 lv br bc)) (some (zi (zvr f L w2 p2))) n (zsu (zsu σ 153 (zA 256 V2)) 145 (zMO um L (if w2 = true then (zvl f L p2).2.1 else p2) (w2 && (zvl f L p2).1) lv br bc)) := by
    intro p2 w2 V2 hp2
    obtain ⟨g1, g2, -⟩ := hmem p2 w2 V2
    cases w2 with
    | true =>
      have h5 := ctX6_value (n := n) g1 g2 hn hm hp2
      rw [zsu_u] at h5
      rw [if_pos rfl, Bool.true_and]
      exact h5
    | false => exact ctX6_valueN g1 g2 hn hm hp2
  have hvin : ∀ p2 : Int, 0 ≤ p2 ∧ p2 ≤ 80 → p2 ≤ (zvl f L p2).2.1 ∧ (zvl f L p2).2.1 ≤ 80 := fun p2 h => ⟨(zvl_in hL.2 h.2).1, (zvl_in hL.2 h.2).2.1⟩
  refine zCt.of (by decide) rfl (Nat.le_of_ble_eq_true rfl) (fun K C => ?_)
  have loop : ∀ j : Nat, j ≤ 81 → ∀ (p2 x : Int) (w2 : Bool) (V2 : Int → Int), ((j : Int) ≤ p2 ∧ p2 ≤ 80) → F = zmv f L m (81 - j) w2 p2 j V2 → K 30 [some (zr 145), some (zi m), some (zi (j : Int)), some (zi x), none] [] n (zsu (zsu σ 153 (zA 256 V2)) 145 (zMO um L p2 w2 lv br bc)) 0 := by
    refine zloop _ 81 (fun j hj ih => ?_)
    intro p2 x w2 V2 hp2 he
    obtain ⟨hM, hP, hV⟩ := hmem p2 w2 V2
    have hl := hm.l p2
    have hLt := ctX6_letter (n := n) hM hP hn hm (show 0 ≤ p2 ∧ p2 ≤ 80 by omega)
    have fill : ∀ (p3 x3 : Int) (w3 : Bool), F = zmv f L m (81 - (j + 1)) w3 p3 ((j + 1 : Nat) : Int) (zfv V2 (j + 1) m x3) → (((j + 1 : Nat) : Int) ≤ p3 ∧ p3 ≤ 80) → j < 81 → ∀ i : Nat, i ≤ (m - (j + 1)).toNat → K 67 [some (zr 145), some (zi m), some (zi ((j : Int) + 1)), some (zi x3), some (zi ((j : Int) + 1 + i))] [] n (zsu (zsu σ 153 (zA 256 (zfv V2 (j + 1) (j + 1 + i) x3))) 145 (zMO um L p3 w3 lv br bc)) 0 := by
      intro p3 x3 w3 he3 hp3 hj8
      refine zloop _ (m - (j + 1)).toNat (fun i hi ih2 => ?_)
      generalize hW : zfv V2 (j + 1) ((j : Int) + 1 + i) x3 = W
      obtain ⟨hM, hP, hV⟩ := hmem p3 w3 W
      refine x_iload C dX6_readsValues_67 rfl ?_
      refine x_iload_n C dX6_readsValues_69 rfl ?_
      refine x_icmp_ge (tgt := 87) C dX6_readsValues_70 (by decide) (by omega) (fun c70 => ?_) (fun c70 => ?_)
      · have hWm : W = zfv V2 (j + 1) m x3 := by
          rw [← hW]
          funext k
          unfold zfv
          by_cases q : (j : Int) + 1 ≤ k ∧ k < m
          · rw [if_pos q, if_pos (by omega)]
          · rw [if_neg q, if_neg (by omega)]
        rw [hWm]
        have ih := ih hj8 p3 x3 w3 _ hp3 he3
        refine x_goto (tgt := 30) C dX6_readsValues_87 (by decide) ?_
        exact x_wk C rfl ih
      · refine x_aload_n C dX6_readsValues_73 rfl ?_
        refine x_getfield C dX6_readsValues_74 lfX6_32 hM (by omega) rfl ?_
        refine x_iload C dX6_readsValues_77 rfl ?_
        refine x_iload_n C dX6_readsValues_79 rfl ?_
        refine x_iastore C dX6_readsValues_80 hV (by omega) ?_
        refine x_nm (fun s80 e80 => ?_)
        have hM := (congrFun e80 145).trans ((zsu_n _ _ (by omega)).trans hM)
        have hV := (congrFun e80 153).trans (zsu_s _ _ _)
        have ih2 := ih2 (by omega)
        rw [show zfv V2 (j + 1) ((j : Int) + 1 + ((i + 1 : Nat) : Int)) x3 = zu W ((j : Int) + 1 + i) x3 by
          rw [← hW]
          funext k
          unfold zu zfv
          by_cases q : k = (j : Int) + 1 + i
          · rw [if_pos q, if_pos (by omega)]
          · rw [if_neg q]
            by_cases q2 : (j : Int) + 1 ≤ k ∧ k < (j : Int) + 1 + i
            · rw [if_pos q2, if_pos (by omega)]
            · rw [if_neg q2, if_neg (by omega)], show (j : Int) + 1 + ((i + 1 : Nat) : Int) = (j : Int) + 1 + i + 1 by omega] at ih2
        rw [e80, zsu_comm _ _ _ (show (145 : Int) ≠ 153 by decide), zsu_u]
        refine x_iinc C dX6_readsValues_81 rfl (by decide) ?_
        refine x_goto (tgt := 67) C dX6_readsValues_84 (by decide) ?_
        exact ih2
    refine x_aload_n C dX6_readsValues_30 rfl ?_
    refine x_getfield C dX6_readsValues_31 lfX6_198 hM (by omega) rfl ?_
    refine x_ifeq_b (tgt := 90) C dX6_readsValues_34 (by decide) (fun c34 => ?_) (fun c34 => ?_)
    · have eF : F = (w2, p2, V2) := by
        rw [he]
        cases 81 - j with
        | zero => rfl
        | succ k => exact if_neg (fun z => by rw [c34] at z; cases z.1)
      exact x_vret (st := []) C dX6_readsValues_90 rfl ⟨rfl, rfl, by rw [eF], rfl⟩
    · refine x_aload_n C dX6_readsValues_37 rfl ?_
      refine x_callV C dX6_readsValues_38 hLt okX6_letter lkX6_202 ⟨⟨hM, rfl, rfl⟩, (by omega)⟩ ⟨by decide, rfl, rfl, Nat.le_of_ble_eq_true rfl⟩ rfl (Or.inl ⟨rfl, rfl⟩) ?_
      refine x_bipush C dX6_readsValues_41 (by decide) ?_
      refine x_icmp_ne (tgt := 90) C dX6_readsValues_43 (by decide) (by omega) (fun c43 => ?_) (fun c43 => ?_)
      · have eF : F = (w2, p2, V2) := by
          rw [he]
          cases 81 - j with
          | zero => rfl
          | succ k => exact if_neg (fun z => c43 z.2)
        exact x_vret (st := []) C dX6_readsValues_90 rfl ⟨rfl, rfl, by rw [eF], rfl⟩
      · refine x_aload_n C dX6_readsValues_46 rfl ?_
        refine x_dup C dX6_readsValues_47 rfl ?_
        refine x_getfield C dX6_readsValues_48 lfX6_195 hM (by omega) rfl ?_
        refine x_iconst C dX6_readsValues_51 ?_
        refine x_iadd C dX6_readsValues_52 ?_
        refine x_putI C dX6_readsValues_53 lfX6_195 lyX6_9 hM (by omega) (Nat.le_of_ble_eq_true rfl) ?_
        refine x_nm (fun s53 e53 => ?_)
        have hM := (congrFun e53 145).trans (zsu_s _ _ _)
        have hV := (congrFun e53 153).trans ((zsu_n _ _ (by omega)).trans hV)
        have hpL : p2 < L := by
          unfold zlr at c43
          split at c43
          · assumption
          · omega
        have he2 : F = zmv f L m (81 - (j + 1)) (zvl f L (p2 + 1)).1 (zvl f L (p2 + 1)).2.1 ((j + 1 : Nat) : Int) (zfv V2 (j + 1) m (zvr f L true (p2 + 1))) := by
          rw [he, show 81 - j = 81 - (j + 1) + 1 by omega]
          exact if_pos ⟨c34, c43⟩
        have e53 : s53 = zsu (zsu σ 153 (zA 256 V2)) 145 (zMO um L (p2 + 1) true lv br bc) := by rw [e53, zsu_u, c34]; rfl
        have hv3 := hvin (p2 + 1) (by omega)
        have hval := hval (p2 + 1) true V2 (by omega)
        rw [if_pos rfl, Bool.true_and] at hval
        have hM := (hmem (p2 + 1) true V2).1
        have f0 := fill _ (zvr f L true (p2 + 1)) _ he2 (by omega) (by omega) 0 (by omega)
        rw [show zfv V2 (j + 1) ((j : Int) + 1 + ((0 : Nat) : Int)) (zvr f L true (p2 + 1)) = V2 from funext fun k => if_neg (by omega), show (j : Int) + 1 + ((0 : Nat) : Int) = (j : Int) + 1 by omega] at f0
        rw [e53]
        refine x_iinc C dX6_readsValues_56 rfl (by decide) ?_
        refine x_aload_n C dX6_readsValues_59 rfl ?_
        refine x_callV C dX6_readsValues_60 hval okX6_value lkX6_208 ⟨⟨hM, rfl, rfl⟩, (by omega)⟩ ⟨by decide, rfl, rfl, Nat.le_of_ble_eq_true rfl⟩ rfl (Or.inl ⟨rfl, rfl⟩) ?_
        refine x_istore_n C dX6_readsValues_63 (by decide) ?_
        refine x_iload_n C dX6_readsValues_64 rfl ?_
        refine x_istore C dX6_readsValues_65 (by decide) ?_
        exact f0
  have hval0 := hval p wl Va hp
  rw [zsu_self hV, zsu_self hM] at hval0
  have hv0 := hvin p hp
  have fill0 : ∀ i : Nat, i ≤ m.toNat → K 10 [some (zr 145), some (zi m), some (zi 0), some (zi (zvr f L wl p)), some (zi (i : Int))] [] n (zsu (zsu σ 153 (zA 256 (zfv Va 0 i (zvr f L wl p)))) 145 (zMO um L (if wl = true then (zvl f L p).2.1 else p) (wl && (zvl f L p).1) lv br bc)) 0 := by
    refine zloop _ m.toNat (fun i hi ih2 => ?_)
    generalize hW : zfv Va 0 (i : Int) (zvr f L wl p) = W
    obtain ⟨hM, hP, hV⟩ := hmem (if wl = true then (zvl f L p).2.1 else p) (wl && (zvl f L p).1) W
    refine x_iload C dX6_readsValues_10 rfl ?_
    refine x_iload_n C dX6_readsValues_12 rfl ?_
    refine x_icmp_ge (tgt := 30) C dX6_readsValues_13 (by decide) (by omega) (fun c13 => ?_) (fun c13 => ?_)
    · have hWm : W = zfv Va 0 m (zvr f L wl p) := by rw [← hW, show (i : Int) = m by omega]
      rw [hWm]
      have l0 := loop 0 (by decide) (if wl = true then (zvl f L p).2.1 else p) (zvr f L wl p) (wl && (zvl f L p).1) (zfv Va 0 m (zvr f L wl p)) (by split <;> omega) hF
      exact x_wk C rfl l0
    · refine x_aload_n C dX6_readsValues_16 rfl ?_
      refine x_getfield C dX6_readsValues_17 lfX6_32 hM (by omega) rfl ?_
      refine x_iload C dX6_readsValues_20 rfl ?_
      refine x_iload_n C dX6_readsValues_22 rfl ?_
      refine x_iastore C dX6_readsValues_23 hV (by omega) ?_
      refine x_nm (fun s23 e23 => ?_)
      have hM := (congrFun e23 145).trans ((zsu_n _ _ (by omega)).trans hM)
      have hV := (congrFun e23 153).trans (zsu_s _ _ _)
      have ih2 := ih2 (by omega)
      rw [show zfv Va 0 ((i + 1 : Nat) : Int) (zvr f L wl p) = zu W i (zvr f L wl p) by
        rw [← hW]
        funext k
        unfold zu zfv
        by_cases q : k = (i : Int)
        · rw [if_pos q, if_pos (by omega)]
        · rw [if_neg q]
          by_cases q2 : 0 ≤ k ∧ k < (i : Int)
          · rw [if_pos q2, if_pos (by omega)]
          · rw [if_neg q2, if_neg (by omega)]] at ih2
      rw [e23, zsu_comm _ _ _ (show (145 : Int) ≠ 153 by decide), zsu_u]
      refine x_iinc C dX6_readsValues_24 rfl (by decide) ?_
      refine x_goto (tgt := 10) C dX6_readsValues_27 (by decide) ?_
      exact ih2
  refine x_iconst C dX6_readsValues_0 ?_
  refine x_istore_n C dX6_readsValues_1 (by decide) ?_
  refine x_aload_n C dX6_readsValues_2 rfl ?_
  refine x_callV C dX6_readsValues_3 hval0 okX6_value lkX6_208 ⟨⟨hM, rfl, rfl⟩, (by omega)⟩ ⟨by decide, rfl, rfl, Nat.le_of_ble_eq_true rfl⟩ rfl (Or.inl ⟨rfl, rfl⟩) ?_
  refine x_istore_n C dX6_readsValues_6 (by decide) ?_
  refine x_iconst C dX6_readsValues_7 ?_
  refine x_istore C dX6_readsValues_8 (by decide) ?_
  have f0 := fill0 0 (by omega)
  rw [show zfv Va 0 ((0 : Nat) : Int) (zvr f L wl p) = Va from funext fun k => if_neg (by omega), zsu_self hV] at f0
  exact f0
theorem ctX6_keepsValues {Va Ot : Int → Int} (hM : σ 145 = zMO um L p wl lv br bc) (hV : σ 153 = zA 256 Va) (hO : σ 154 = zA 16 Ot) (hn : 155 ≤ n) (m : Int) (hmm : 0 ≤ m ∧ m ≤ 16) (b : Bool) : zCt 1 0 0 yX6_keepsValues cX6_keepsValues 4 none [zr 145, zi m, zi (zb b)] n σ none n (zsu (zsu σ 154 (zA 16 (zcpy Ot Va m))) 153 (zA 256 (if b = true then zfv Va 0 m 1 else Va))) := by
  refine zCt.of (by decide) rfl (Nat.le_of_ble_eq_true rfl) (fun K C => ?_)
  have loop : ∀ k : Nat, k ≤ m.toNat → K 2 [some (zr 145), some (zi m), some (zi (zb b)), some (zi (k : Int))] [] n (zsu (zsu σ 154 (zA 16 (zcpy Ot Va k))) 153 (zA 256 (if b = true then zfv Va 0 k 1 else Va))) 0 := by
    refine zloop _ m.toNat (fun k hk ih => ?_)
    have hVk : (if b = true then zfv Va 0 (k : Int) 1 else Va) k = Va k := by
      split
      · exact if_neg (by omega)
      · rfl
    generalize hW : (if b = true then zfv Va 0 (k : Int) 1 else Va) = W at *
    have eW1 : b = true → (if b = true then zfv Va 0 ((k + 1 : Nat) : Int) 1 else Va) = zu W k 1 := by
      intro hb
      rw [← hW, if_pos hb, if_pos hb]
      funext j
      unfold zu zfv
      by_cases q : j = (k : Int)
      · rw [if_pos q, if_pos (by omega)]
      · rw [if_neg q]
        by_cases q2 : 0 ≤ j ∧ j < (k : Int)
        · rw [if_pos q2, if_pos (by omega)]
        · rw [if_neg q2, if_neg (by omega)]
    have eW0 : b = false → (if b = true then zfv Va 0 ((k + 1 : Nat) : Int) 1 else Va) = zu W k (W k) := by
      intro hb
      have h0 : ¬ b = true := by rw [hb]; decide
      rw [← hW, if_neg h0, if_neg h0]
      funext j
      unfold zu
      by_cases q : j = (k : Int)
      · rw [if_pos q, q]
      · rw [if_neg q]
    generalize hT : zcpy Ot Va k = T
    have hM := ((zsu_n (zsu σ 154 (zA 16 T)) (zA 256 W) (show (145 : Int) ≠ 153 by decide)).trans (zsu_n σ (zA 16 T) (show (145 : Int) ≠ 154 by decide))).trans hM
    have hV := zsu_s (zsu σ 154 (zA 16 T)) 153 (zA 256 W)
    have hO := (zsu_n (zsu σ 154 (zA 16 T)) (zA 256 W) (show (154 : Int) ≠ 153 by decide)).trans (zsu_s σ 154 (zA 16 T))
    refine x_iload_n C dX6_keepsValues_2 rfl ?_
    refine x_iload_n C dX6_keepsValues_3 rfl ?_
    refine x_icmp_ge (tgt := 45) C dX6_keepsValues_4 (by decide) (by omega) (fun c4 => ?_) (fun c4 => ?_)
    · exact x_vret (st := []) C dX6_keepsValues_45 rfl ⟨rfl, rfl, by rw [← hT, ← hW, show (k : Int) = m by omega], rfl⟩
    · refine x_aload_n C dX6_keepsValues_7 rfl ?_
      refine x_getfield C dX6_keepsValues_8 lfX6_35 hM (by omega) rfl ?_
      refine x_iload_n C dX6_keepsValues_11 rfl ?_
      refine x_aload_n C dX6_keepsValues_12 rfl ?_
      refine x_getfield C dX6_keepsValues_13 lfX6_32 hM (by omega) rfl ?_
      refine x_iload_n C dX6_keepsValues_16 rfl ?_
      refine x_iaload C dX6_keepsValues_17 hV (by omega) ?_
      refine x_iastore C dX6_keepsValues_18 hO (by omega) ?_
      refine x_nm (fun s18 e18 => ?_)
      have hM := (congrFun e18 145).trans ((zsu_n _ _ (by omega)).trans hM)
      have hV := (congrFun e18 153).trans ((zsu_n _ _ (by omega)).trans hV)
      have hO := (congrFun e18 154).trans (zsu_s _ _ _)
      refine x_aload_n C dX6_keepsValues_19 rfl ?_
      refine x_getfield C dX6_keepsValues_20 lfX6_32 hM (by omega) rfl ?_
      refine x_iload_n C dX6_keepsValues_23 rfl ?_
      refine x_iload_n C dX6_keepsValues_24 rfl ?_
      refine x_ifeq_b (tgt := 32) C dX6_keepsValues_25 (by decide) (fun c25 => ?_) (fun c25 => ?_)
      · have eW := eW0 c25
        refine x_aload_n C dX6_keepsValues_32 rfl ?_
        refine x_getfield C dX6_keepsValues_33 lfX6_32 hM (by omega) rfl ?_
        refine x_iload_n C dX6_keepsValues_36 rfl ?_
        refine x_iaload C dX6_keepsValues_37 hV (by omega) ?_
        refine x_iastore C dX6_keepsValues_38 hV (by omega) ?_
        refine x_nm (fun s38 e38 => ?_)
        have hM := (congrFun e38 145).trans ((zsu_n _ _ (by omega)).trans hM)
        have hV := (congrFun e38 153).trans (zsu_s _ _ _)
        have hO := (congrFun e38 154).trans ((zsu_n _ _ (by omega)).trans hO)
        have ih := ih (by omega)
        rw [show ((k + 1 : Nat) : Int) = (k : Int) + 1 by omega] at eW ih
        rw [eW, ← zcpy_s _ _ (show 0 ≤ (k : Int) by omega), hT, ← hVk] at ih
        rw [e38, e18, zsu_comm _ _ _ (show (153 : Int) ≠ 154 by decide), zsu_u, zsu_u]
        refine x_iinc C dX6_keepsValues_39 rfl (by decide) ?_
        refine x_goto (tgt := 2) C dX6_keepsValues_42 (by decide) ?_
        exact ih
      · have eW := eW1 c25
        refine x_iconst C dX6_keepsValues_28 ?_
        refine x_goto (tgt := 38) C dX6_keepsValues_29 (by decide) ?_
        refine x_iastore C dX6_keepsValues_38 hV (by omega) ?_
        refine x_nm (fun s38 e38 => ?_)
        have hM := (congrFun e38 145).trans ((zsu_n _ _ (by omega)).trans hM)
        have hV := (congrFun e38 153).trans (zsu_s _ _ _)
        have hO := (congrFun e38 154).trans ((zsu_n _ _ (by omega)).trans hO)
        have ih := ih (by omega)
        rw [show ((k + 1 : Nat) : Int) = (k : Int) + 1 by omega] at eW ih
        rw [eW, ← zcpy_s _ _ (show 0 ≤ (k : Int) by omega), hT, ← hVk] at ih
        rw [e38, e18, zsu_comm _ _ _ (show (153 : Int) ≠ 154 by decide), zsu_u, zsu_u]
        refine x_iinc C dX6_keepsValues_39 rfl (by decide) ?_
        refine x_goto (tgt := 2) C dX6_keepsValues_42 (by decide) ?_
        exact ih
  refine x_iconst C dX6_keepsValues_0 ?_
  refine x_istore_n C dX6_keepsValues_1 (by decide) ?_
  have l0 := loop 0 (by omega)
  rw [show ((0 : Nat) : Int) = 0 from rfl, zcpy_0, zsu_self hO, show (if b = true then zfv Va 0 0 1 else Va) = Va by
    split
    · exact funext fun j => if_neg (by omega)
    · rfl, zsu_self hV] at l0
  exact l0
end
