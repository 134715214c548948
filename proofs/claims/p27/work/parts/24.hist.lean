/-- the history: cell 16, its row 17, its states from 18 on -/
def isHi (σ : zS) (n : Nat) (o l : Int) (Hs : Int → zSV) : Prop := σ 16 = zO 0 [zr 17, zi o, zi l] ∧ σ 17 = zQ 4 6 (fun k => some (18 + 14 * k)) ∧ ((0 ≤ o ∧ o < 6) ∧ 0 ≤ l ∧ l ≤ 6) ∧ ∀ k, 0 ≤ k → k < 6 → isSt σ n (18 + 14 * k) (Hs k)
theorem isHi.ag {σ σ2 : zS} {n : Nat} {o l a b : Int} {Hs : Int → zSV} (h : isHi σ n o l Hs) (hg : zAg σ σ2 a b) (hd : 101 < a ∨ b < 16) : isHi σ2 n o l Hs := by
  obtain ⟨h1, h2, h3, h4⟩ := h
  exact ⟨(hg 16 (by omega)).trans h1, (hg 17 (by omega)).trans h2, h3, fun k hk1 hk2 => (h4 k hk1 hk2).ag hg (by omega)⟩
def zhu (Hs : Int → zSV) (i : Int) (X : zSV) : Int → zSV := fun k => if k = i then X else Hs k
theorem isHi.put {σ : zS} {n : Nat} {o l : Int} {Hs : Int → zSV} (h : isHi σ n o l Hs) {i : Int} (hi : 0 ≤ i ∧ i < 6) (X : zSV) (o2 l2 : Int) (hb : (0 ≤ o2 ∧ o2 < 6) ∧ 0 ≤ l2 ∧ l2 ≤ 6) : isHi (zsu (zbec σ (18 + 14 * i) X) 16 (zO 0 [zr 17, zi o2, zi l2])) n o2 l2 (zhu Hs i X) := by
  obtain ⟨h1, h2, h3, h4⟩ := h
  have g1 := zbec_ag σ (18 + 14 * i) X
  refine ⟨zsu_s _ _ _, ?_, hb, fun k hk1 hk2 => ?_⟩
  · rw [zsu_n _ _ (by omega), g1 17 (by omega)]
    exact h2
  · unfold zhu
    by_cases q : k = i
    · subst q
      simp only [if_pos]
      exact (zbec_is X (h4 k hk1 hk2)).ag (zAg.su _ 16 _) (by omega)
    · simp only [if_neg q]
      exact ((h4 k hk1 hk2).ag g1 (by omega)).ag (zAg.su _ 16 _) (by omega)
section
variable {n : Nat} {σ : zS}
theorem ctX0_keep {s o l : Int} {Hs : Int → zSV} {X : zSV} (h : isHi σ n o l Hs) (hs : isSt σ n s X) (hd : s + 13 < 16 ∨ 101 < s) (hn : 144 ≤ n) : zCt 3 0 0 yX0_keep cX0_keep 2 none [zr 16, zr s] n σ none n (zsu (zbec σ (18 + 14 * ((o + l) % 6)) X) 16 (zO 0 (if l < 6 then [zr 17, zi o, zi (l + 1)] else [zr 17, zi ((o + 1) % 6), zi l]))) := by
  obtain ⟨hH0, hH1, hb, hst⟩ := h
  have hI := hst ((o + l) % 6) (by omega) (by omega)
  have hI0 := hI.1
  have hN0 := hs.1
  have g1 := zbec_ag σ (18 + 14 * ((o + l) % 6)) X
  refine zCt.of (by decide) rfl (Nat.le_of_ble_eq_true rfl) (fun K C => ?_)
  refine x_aload_n C dX0_keep_0 rfl ?_
  refine x_getfield C dX0_keep_1 lfX0_11 hH0 (by omega) rfl ?_
  refine x_aload_n C dX0_keep_4 rfl ?_
  refine x_getfield C dX0_keep_5 lfX0_17 hH0 (by omega) rfl ?_
  refine x_aload_n C dX0_keep_8 rfl ?_
  refine x_getfield C dX0_keep_9 lfX0_21 hH0 (by omega) rfl ?_
  refine x_iadd C dX0_keep_12 ?_
  refine x_bipush C dX0_keep_13 (by decide) ?_
  refine x_irem C dX0_keep_15 (by omega) ?_
  refine x_aaload4 C dX0_keep_16 hH1 (by omega) rfl ?_
  refine x_aload_n C dX0_keep_17 rfl ?_
  refine x_callV C dX0_keep_18 (ctX4_become hI hs (by omega)) okX4_become lkX0_25 ⟨⟨hI0, rfl, rfl⟩, (by omega)⟩ ⟨by decide, rfl, rfl, Nat.le_of_ble_eq_true rfl⟩ rfl (Or.inl ⟨rfl, rfl⟩) ?_
  have hH0 := (g1 16 (by omega)).trans hH0
  refine x_aload_n C dX0_keep_21 rfl ?_
  refine x_getfield C dX0_keep_22 lfX0_21 hH0 (by omega) rfl ?_
  refine x_bipush C dX0_keep_25 (by decide) ?_
  refine x_icmp_ge (tgt := 43) C dX0_keep_27 (by decide) (by omega) (fun c27 => ?_) (fun c27 => ?_)
  · refine x_aload_n C dX0_keep_43 rfl ?_
    refine x_aload_n C dX0_keep_44 rfl ?_
    refine x_getfield C dX0_keep_45 lfX0_17 hH0 (by omega) rfl ?_
    refine x_iconst C dX0_keep_48 ?_
    refine x_iadd C dX0_keep_49 ?_
    refine x_bipush C dX0_keep_50 (by decide) ?_
    refine x_irem C dX0_keep_52 (by omega) ?_
    refine x_putI C dX0_keep_53 lfX0_17 lyX0_1 hH0 (by omega) (Nat.le_of_ble_eq_true rfl) ?_
    skip
    exact x_vret (st := []) C dX0_keep_56 rfl ⟨rfl, rfl, by first | (rw [if_pos c27]; rfl) | (rw [if_neg (by omega)]; rfl), rfl⟩
  · refine x_aload_n C dX0_keep_30 rfl ?_
    refine x_dup C dX0_keep_31 rfl ?_
    refine x_getfield C dX0_keep_32 lfX0_21 hH0 (by omega) rfl ?_
    refine x_iconst C dX0_keep_35 ?_
    refine x_iadd C dX0_keep_36 ?_
    refine x_putI C dX0_keep_37 lfX0_21 lyX0_2 hH0 (by omega) (Nat.le_of_ble_eq_true rfl) ?_
    skip
    refine x_goto (tgt := 56) C dX0_keep_40 (by decide) ?_
    exact x_vret (st := []) C dX0_keep_56 rfl ⟨rfl, rfl, by first | (rw [if_pos c27]; rfl) | (rw [if_neg (by omega)]; rfl), rfl⟩
theorem ctX0_takeBack {s o l : Int} {Hs : Int → zSV} {X : zSV} (h : isHi σ n o l Hs) (hl : 0 < l) (hs : isSt σ n s X) (hd : s + 13 < 16 ∨ 101 < s) (hn : 144 ≤ n) : zCt 3 0 0 yX0_takeBack cX0_takeBack 2 none [zr 16, zr s] n σ none n (zbec (zsu σ 16 (zO 0 [zr 17, zi o, zi (l - 1)])) s (Hs ((o + (l - 1)) % 6))) := by
  obtain ⟨hH0, hH1, hb, hst⟩ := h
  have hI := hst ((o + (l - 1)) % 6) (by omega) (by omega)
  have hI0 := hI.1
  have hN0 := hs.1
  have hin := hs.2.2.1
  refine zCt.of (by decide) rfl (Nat.le_of_ble_eq_true rfl) (fun K C => ?_)
  refine x_aload_n C dX0_takeBack_0 rfl ?_
  refine x_getfield C dX0_takeBack_1 lfX0_21 hH0 (by omega) rfl ?_
  refine x_if_le (tgt := 38) C dX0_takeBack_4 (by decide) (by omega) (fun c4 => ?_) (fun c4 => ?_)
  · exact absurd hl (by omega)
  · refine x_aload_n C dX0_takeBack_7 rfl ?_
    refine x_dup C dX0_takeBack_8 rfl ?_
    refine x_getfield C dX0_takeBack_9 lfX0_21 hH0 (by omega) rfl ?_
    refine x_iconst C dX0_takeBack_12 ?_
    refine x_isub C dX0_takeBack_13 ?_
    refine x_putI C dX0_takeBack_14 lfX0_21 lyX0_2 hH0 (by omega) (Nat.le_of_ble_eq_true rfl) ?_
    have hH0 := zsu_s σ 16 (zO 0 [zr 17, zi o, zi (l - 1)])
    have hH1 := (zsu_n σ (zO 0 [zr 17, zi o, zi (l - 1)]) (show (17 : Int) ≠ 16 by decide)).trans hH1
    have hI0 := (zsu_n σ (zO 0 [zr 17, zi o, zi (l - 1)]) (show (18 + 14 * ((o + (l - 1)) % 6) : Int) ≠ 16 by omega)).trans hI0
    have hN0 := (zsu_n σ (zO 0 [zr 17, zi o, zi (l - 1)]) (show s ≠ 16 by omega)).trans hN0
    refine x_aload_n C dX0_takeBack_17 rfl ?_
    refine x_aload_n C dX0_takeBack_18 rfl ?_
    refine x_getfield C dX0_takeBack_19 lfX0_11 hH0 (by omega) rfl ?_
    refine x_aload_n C dX0_takeBack_22 rfl ?_
    refine x_getfield C dX0_takeBack_23 lfX0_17 hH0 (by omega) rfl ?_
    refine x_aload_n C dX0_takeBack_26 rfl ?_
    refine x_getfield C dX0_takeBack_27 lfX0_21 hH0 (by omega) rfl ?_
    refine x_iadd C dX0_takeBack_30 ?_
    refine x_bipush C dX0_takeBack_31 (by decide) ?_
    refine x_irem C dX0_takeBack_33 (by omega) ?_
    refine x_aaload4 C dX0_takeBack_34 hH1 (by omega) rfl ?_
    refine x_callV C dX0_takeBack_35 (ctX4_become (hs.ag (zAg.su σ 16 _) (by omega)) (hI.ag (zAg.su σ 16 _) (by omega)) (by omega)) okX4_become lkX0_25 ⟨⟨hN0, rfl, rfl⟩, (by omega)⟩ ⟨by decide, rfl, rfl, Nat.le_of_ble_eq_true rfl⟩ rfl (Or.inl ⟨rfl, rfl⟩) ?_
    exact x_vret (st := []) C dX0_takeBack_38 rfl ⟨rfl, rfl, rfl, rfl⟩
/-- the number of changes of a state -/
def zch (X : zSV) (c : Int) : zSV := (X.1, (X.2.1, c))
theorem isSt.ch {s : Int} {X : zSV} (hs : isSt σ n s X) (c : Int) : isSt (zsu σ s (zO 4 [zr (s + 1), zi c])) n s (zch X c) := by
  obtain ⟨h1, h2, h3, h4⟩ := hs
  exact ⟨zsu_s _ _ _, (zsu_n _ _ (by omega)).trans h2, h3, fun m a b => (h4 m a b).ag (zAg.su _ _ _) (by omega)⟩
def isB (σ : zS) (n : Nat) : Prop := σ 1 = zO 5 [zr 2, zr 16, zr 102, zr 103, zr 111, zr 114] ∧ 144 ≤ n
/-- what a change does to the history -/
def zkO (o l : Int) : Int := if l < 6 then o else (o + 1) % 6
def zkL (l : Int) : Int := if l < 6 then l + 1 else l
def zbc (σ : zS) (X : zSV) (o l : Int) : zS := zsu (zsu (zbec σ (18 + 14 * ((o + l) % 6)) X) 16 (zO 0 [zr 17, zi (zkO o l), zi (zkL l)])) 2 (zO 4 [zr 3, zi (X.2.2 + 1)])
theorem zkeepO (o l : Int) : (if l < 6 then [zr 17, zi o, zi (l + 1)] else [zr 17, zi ((o + 1) % 6), zi l]) = [zr 17, zi (zkO o l), zi (zkL l)] := by
  unfold zkO zkL
  split <;> rfl
theorem ctX0_keep2 {s o l : Int} {Hs : Int → zSV} {X : zSV} (h : isHi σ n o l Hs) (hs : isSt σ n s X) (hd : s + 13 < 16 ∨ 101 < s) (hn : 144 ≤ n) : zCt 3 0 0 yX0_keep cX0_keep 2 none [zr 16, zr s] n σ none n (zsu (zbec σ (18 + 14 * ((o + l) % 6)) X) 16 (zO 0 [zr 17, zi (zkO o l), zi (zkL l)])) := by
  rw [← zkeepO]
  exact ctX0_keep h hs hd hn
theorem ctX5_beginChange {o l : Int} {Hs : Int → zSV} {X : zSV} (hB : isB σ n) (hh : isHi σ n o l Hs) (hs : isSt σ n 2 X) : zCt 4 0 0 yX5_beginChange cX5_beginChange 1 none [zr 1] n σ none n (zbc σ X o l) := by
  have hB0 := hB.1
  have hn := hB.2
  have hN0 := hs.1
  have hH0 := hh.1
  have hb := hh.2.2.1
  have g2 : zAg σ (zsu (zbec σ (18 + 14 * ((o + l) % 6)) X) 16 (zO 0 [zr 17, zi (zkO o l), zi (zkL l)])) 16 101 := fun k hk => by
    rw [zsu_n _ _ (by omega), zbec_ag σ _ X k (by omega)]
  refine zCt.of (by decide) rfl (Nat.le_of_ble_eq_true rfl) (fun K C => ?_)
  refine x_aload_n C dX5_beginChange_0 rfl ?_
  refine x_getfield C dX5_beginChange_1 lfX5_19 hB0 (by omega) rfl ?_
  refine x_aload_n C dX5_beginChange_4 rfl ?_
  refine x_getfield C dX5_beginChange_5 lfX5_12 hB0 (by omega) rfl ?_
  refine x_callV C dX5_beginChange_8 (ctX0_keep2 hh hs (by omega) hB.2) okX0_keep lkX5_207 ⟨⟨hH0, rfl, rfl⟩, (by omega)⟩ ⟨by decide, rfl, rfl, Nat.le_of_ble_eq_true rfl⟩ rfl (Or.inl ⟨rfl, rfl⟩) ?_
  have hB0 := (g2 1 (by omega)).trans hB0
  have hN0 := (g2 2 (by omega)).trans hN0
  refine x_aload_n C dX5_beginChange_11 rfl ?_
  refine x_getfield C dX5_beginChange_12 lfX5_12 hB0 (by omega) rfl ?_
  refine x_dup C dX5_beginChange_15 rfl ?_
  refine x_getfieldN C dX5_beginChange_16 nfX5_160 hN0 (by omega) rfl ?_
  refine x_iconst C dX5_beginChange_19 ?_
  refine x_iadd C dX5_beginChange_20 ?_
  refine x_putIN C dX5_beginChange_21 nfX5_160 lyX4_1 hN0 (by omega) (Nat.le_of_ble_eq_true rfl) ?_
  skip
  exact x_vret (st := []) C dX5_beginChange_24 rfl ⟨rfl, rfl, rfl, rfl⟩
end
theorem zkb {o l : Int} (hb : (0 ≤ o ∧ o < 6) ∧ 0 ≤ l ∧ l ≤ 6) : (0 ≤ zkO o l ∧ zkO o l < 6) ∧ 0 ≤ zkL l ∧ zkL l ≤ 6 := by
  unfold zkO zkL
  split <;> omega
theorem zbc_ag {σ : zS} {X : zSV} {o l : Int} : zAg σ (zbc σ X o l) 2 101 := fun k hk => by
  unfold zbc
  rw [zsu_n _ _ (by omega), zsu_n _ _ (by omega), zbec_ag σ _ X k (by omega)]
/-- behind a change: the history and the state now -/
theorem zbc_is {σ : zS} {n : Nat} {o l : Int} {Hs : Int → zSV} {X : zSV} (hh : isHi σ n o l Hs) (hs : isSt σ n 2 X) : isHi (zbc σ X o l) n (zkO o l) (zkL l) (zhu Hs ((o + l) % 6) X) ∧ isSt (zbc σ X o l) n 2 (zch X (X.2.2 + 1)) := by
  have hb := hh.2.2.1
  constructor
  · exact (isHi.put hh (i := (o + l) % 6) (by omega) X _ _ (zkb hb)).ag (zAg.su _ 2 _) (by omega)
  · exact (((hs.ag (zbec_ag σ (18 + 14 * ((o + l) % 6)) X) (by omega)).ag (zAg.su _ 16 _) (by omega)).ch (X.2.2 + 1))
