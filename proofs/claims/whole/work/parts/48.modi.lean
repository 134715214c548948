/-- a change is counted, and the state before it kept -/
def zcn (S : Int → Int) : Int → Int := zu S 1364 (S 1364 + 1)
def zM4 (σ : zS) (O : zC) (S U : Int → Int) : zS := zsu (zsu (zsu σ 148 (zA 8190 U)) 145 O) 146 (zA 1365 S)
theorem zM4_s (σ : zS) (O : zC) (S U T : Int → Int) : zsu (zM4 σ O S U) 146 (zA 1365 T) = zM4 σ O T U := zsu_u _ _ _ _
theorem zM4_o (σ : zS) (O : zC) (S U : Int → Int) {k : Int} (h : k ≠ 145 ∧ k ≠ 146 ∧ k ≠ 148) : zM4 σ O S U k = σ k := by
  unfold zM4
  rw [zsu_n _ _ h.2.1, zsu_n _ _ h.1, zsu_n _ _ h.2.2]
theorem zM4_m (σ : zS) (O : zC) (S U : Int → Int) : zM4 σ O S U 145 = O := by
  unfold zM4
  rw [zsu_n _ _ (by decide), zsu_s]
theorem zM4_U (σ : zS) (O : zC) (S U : Int → Int) : zM4 σ O S U 148 = zA 8190 U := by
  unfold zM4
  rw [zsu_n _ _ (by decide), zsu_n _ _ (by decide), zsu_s]
theorem zM4_mo {σ : zS} {n : Nat} {S U : Int → Int} {um L p lv br bc : Int} {wl : Bool} (hn : 155 ≤ n) : isMo (zM4 σ (zMO um L p wl lv br bc) S U) n S :=
  ⟨⟨um, L, p, wl, lv, br, bc, zM4_m _ _ _ _⟩, zsu_s _ _ _, hn⟩
theorem zsT_cn (S : Int → Int) {m k : Int} (hm : 0 ≤ m ∧ m < 4) (hk : 0 ≤ k ∧ k < 85) : zsT (zcn S) m k = zsT S m k := by
  unfold zsT zcn zu
  rw [if_neg (by omega)]
theorem zsE_cn (S : Int → Int) {m j : Int} (hm : 0 ≤ m ∧ m < 4) (hj : 0 ≤ j ∧ j < 256) : zsE (zcn S) m j = zsE S m j := by
  unfold zsE zcn zu
  rw [if_neg (by omega)]
theorem isSo.cn {S : Int → Int} (h : isSo S) : isSo (zcn S) := fun m k h1 h2 h3 h4 => by
  rw [zsT_cn S ⟨h1, h2⟩ ⟨h3, h4⟩]
  exact h m k h1 h2 h3 h4
theorem zEn.cn {S : Int → Int} (h : zEn S) : zEn (zcn S) := fun m hm j h1 h2 => by
  rw [zsE_cn S hm ⟨h1, h2⟩]
  exact h m hm j h1 h2
theorem zVl.cn {S : Int → Int} {m : Int} (hm : 0 ≤ m ∧ m < 4) (h : zVl (zsT S m)) : zVl (zsT (zcn S) m) := h.mono (fun x h1 h2 h3 => by
  rw [zsT_cn S hm ⟨h1, h2⟩] at h3
  exact h3)
theorem zmct_so {S : Int → Int} (h : isSo S) {m d r c : Int} (hm : 0 ≤ m ∧ m < 4) (hd : 0 ≤ d ∧ d ≤ 2) (hr : 0 ≤ r ∧ r < zp2 d) (hc : 0 ≤ c ∧ c < zp2 d) : isSo (zmct S m d r c) := by
  have hz := zmn_in (by omega) hr hc
  have hs := h.m hm (by omega) hr hc
  unfold zmct
  split
  · exact h
  · have key : ∀ k : Nat, k ≤ 4 → isSo (zfo (fun T k => zu T (341 * m + zmn (d + 1) (2 * r + k / 2) (2 * c + k % 2)) (zsT S m (zmn d r c))) (zu S (341 * m + zmn d r c) 3) k) := by
      intro k
      induction k with
      | zero => exact fun _ => h.t hm hz (by decide)
      | succ k ih =>
        intro hk
        have q1 := zpq (k := k) hd hr (by omega)
        have q2 := zpq (k := k) hd hc (by omega)
        have q3 := zmn_in (d := d + 1) (by omega) q1.1 q2.2
        exact (ih (by omega)).t hm q3 hs
    exact key 4 (by decide)
theorem zmct_en {S : Int → Int} (h : zEn S) {m d r c : Int} (hm : 0 ≤ m ∧ m < 4) (hd : 0 ≤ d ∧ d ≤ 2) (hr : 0 ≤ r ∧ r < zp2 d) (hc : 0 ≤ c ∧ c < zp2 d) : zEn (zmct S m d r c) := by
  have hz := zmn_in (by omega) hr hc
  unfold zmct
  split
  · exact h
  · have key : ∀ k : Nat, k ≤ 4 → zEn (zfo (fun T k => zu T (341 * m + zmn (d + 1) (2 * r + k / 2) (2 * c + k % 2)) (zsT S m (zmn d r c))) (zu S (341 * m + zmn d r c) 3) k) := by
      intro k
      induction k with
      | zero => exact fun _ => h.t _ hm hz
      | succ k ih =>
        intro hk
        have q1 := zpq (k := k) hd hr (by omega)
        have q2 := zpq (k := k) hd hc (by omega)
        have q3 := zmn_in (d := d + 1) (by omega) q1.1 q2.2
        exact (ih (by omega)).t _ hm q3
    exact key 4 (by decide)
theorem zlv_ok {S : Int → Int} {m d : Int} (h : okM m S) (hm : 0 ≤ m ∧ m < 4) (hd : 0 ≤ d ∧ d ≤ 3) : ∀ k : Nat, k ≤ (zp2 d * zp2 d).toNat → okM m (zlv m d (zp2 d) S k)
  | 0, _ => h
  | k + 1, hk => by
    have ih := zlv_ok h hm hd k (by omega)
    obtain ⟨N, hN, hN2⟩ := zp2N hd
    have hk2 : k < N * N := by
      rw [hN, show ((N : Int) * N).toNat = N * N by rw [← Int.natCast_mul]; rfl] at hk
      omega
    have hq := zdm hk2
    exact zlvs_ok ih hm hd (by rw [hN]; exact hq.1) (by rw [hN]; exact hq.2)
theorem zsh_ok {S : Int → Int} {m : Int} (hm : 0 ≤ m ∧ m < 4) (h : okM m S) : ∀ j : Nat, j ≤ 4 → okM m (zsh m S j)
  | 0, _ => h
  | j + 1, hj => zlv_ok (zsh_ok hm h j (by omega)) hm (by omega) _ (Nat.le_refl _)
def zets (m row col : Int) (S : Int → Int) : Nat → Int → Int := zfo (fun T j => zmct T m j (row / zsz j) (col / zsz j)) S
def zet (S : Int → Int) (m row col : Int) : Int → Int := zu (zets m row col S 3) (341 * m + zmn 3 (row / 2) (col / 2)) 1
theorem zets_so {S : Int → Int} (h : isSo S) (h2 : zEn S) {m row col : Int} (hm : 0 ≤ m ∧ m < 4) (hr : 0 ≤ row ∧ row < 16) (hc : 0 ≤ col ∧ col < 16) : ∀ k : Nat, k ≤ 3 → isSo (zets m row col S k) ∧ zEn (zets m row col S k)
  | 0, _ => ⟨h, h2⟩
  | k + 1, hk => by
    have ih := zets_so h h2 hm hr hc k (by omega)
    have q1 := zdvs (k := k) (by omega) hr
    have q2 := zdvs (k := k) (by omega) hc
    exact ⟨zmct_so ih.1 hm (by omega) q1 q2, zmct_en ih.2 hm (by omega) q1 q2⟩
section
variable {n : Nat} {σ : zS} {S U : Int → Int} {um L p lv br bc : Int} {wl : Bool}
theorem ctX6_entry (hM : σ 145 = zMO um L p wl lv br bc) (hS0 : σ 146 = zA 1365 S) (hU : σ 148 = zA 8190 U) (hn : 155 ≤ n) (hu : 0 ≤ um ∧ um ≤ 6) (hS : isSo S) (hE : zEn S) (m row col v : Int) (hm : (0 ≤ m ∧ m < 4)) (hr : 0 ≤ row ∧ row < 16) (hc : 0 ≤ col ∧ col < 16) (hv : -1000000 ≤ v ∧ v ≤ 1000000) : zCt 13 0 0 yX6_entry cX6_entry 6 (some .int) [zr 145, zi m, zi row, zi col, zi v] n σ (some (zi (zsE (zet (zcn S) m row col) m (row * 16 + col) + 1000000))) n (zsu (zM4 σ (zMO (zu1 um + 1) L p wl lv br bc) (zcn S) (zU2 um U S)) 146 (zA 1365 (zu (zet (zcn S) m row col) (341 * m + 85 + (row * 16 + col)) v))) := by
  have hcn : zCt 2 0 0 yX6_counts cX6_counts 1 none [zr 145] n σ none n (zM4 σ (zMO (zu1 um + 1) L p wl lv br bc) (zcn S) (zU2 um U S)) := ctX6_counts hM hS0 hU hn hu
  have h1 := zM4_mo (σ := σ) (S := zcn S) (U := zU2 um U S) (um := zu1 um + 1) (L := L) (p := p) (wl := wl) (lv := lv) (br := br) (bc := bc) hn
  have hS := hS.cn
  have hE := hE.cn
  generalize (zM4 σ (zMO (zu1 um + 1) L p wl lv br bc) (zcn S) (zU2 um U S)) = τ at *
  generalize zcn S = S1 at *
  obtain ⟨⟨um1, L1, p1, wl1, lv1, br1, bc1, hM1⟩, hS1, hn1⟩ := id h1
  refine zCt.of (by decide) rfl (Nat.le_of_ble_eq_true rfl) (fun K C => ?_)
  have loop : ∀ k : Nat, k ≤ 3 → K 44 [some (zr 145), some (zi m), some (zi row), some (zi col), some (zi v), some (zi (k : Int))] [] n (zsu τ 146 (zA 1365 (zets m row col S1 k))) 0 := by
    refine zloop _ 3 (fun k hk ih => ?_)
    have h2 := h1.s (zets m row col S1 k)
    have hk2 := zets_so hS hE hm hr hc k hk
    have eT : zets m row col S1 (k + 1) = zmct (zets m row col S1 k) m k (row / zsz k) (col / zsz k) := rfl
    have eE : k = 3 → zet S1 m row col = zu (zets m row col S1 k) (341 * m + zmn 3 (row / 2) (col / 2)) 1 := by
      rintro rfl
      rfl
    generalize zets m row col S1 k = T at *
    obtain ⟨⟨um, L, p, wl, lv, br, bc, hM⟩, hS0, hn⟩ := id h2
    refine x_iload C dX6_entry_44 rfl ?_
    refine x_iconst C dX6_entry_46 ?_
    refine x_icmp_ge (tgt := 77) C dX6_entry_47 (by decide) (by omega) (fun c47 => ?_) (fun c47 => ?_)
    · have q1 : 0 ≤ row / 2 ∧ row / 2 < zp2 3 := by rw [show zp2 3 = 8 from rfl]; omega
      have q2 : 0 ≤ col / 2 ∧ col / 2 < zp2 3 := by rw [show zp2 3 = 8 from rfl]; omega
      have h3 := h1.s (zet S1 m row col)
      refine x_aload_n C dX6_entry_77 rfl ?_
      refine x_iload_n C dX6_entry_78 rfl ?_
      refine x_iconst C dX6_entry_79 ?_
      refine x_iload_n C dX6_entry_80 rfl ?_
      refine x_iconst C dX6_entry_81 ?_
      refine x_idiv C dX6_entry_82 (by omega) ?_
      refine x_iload_n C dX6_entry_83 rfl ?_
      refine x_iconst C dX6_entry_84 ?_
      refine x_idiv C dX6_entry_85 (by omega) ?_
      refine x_iconst C dX6_entry_86 ?_
      refine x_callV C dX6_entry_87 (ctX6_sorts h2 m 3 _ _ 1 hm (by decide) q1 q2) okX6_sorts lkX6_96 ⟨⟨hM, rfl, rfl⟩, (by omega)⟩ ⟨by decide, rfl, rfl, Nat.le_of_ble_eq_true rfl⟩ rfl (Or.inl ⟨rfl, rfl⟩) ?_
      rw [zsu_u, ← eE (by omega)]
      obtain ⟨⟨um, L, p, wl, lv, br, bc, hM⟩, hS0, hn⟩ := id h3
      refine x_aload_n C dX6_entry_90 rfl ?_
      refine x_iload_n C dX6_entry_91 rfl ?_
      refine x_iload_n C dX6_entry_92 rfl ?_
      refine x_iload_n C dX6_entry_93 rfl ?_
      refine x_callV C dX6_entry_94 (ctX6_get h3 m row col hm hr hc) okX6_get lkX6_81 ⟨⟨hM, rfl, rfl⟩, (by omega)⟩ ⟨by decide, rfl, rfl, Nat.le_of_ble_eq_true rfl⟩ rfl (Or.inl ⟨rfl, rfl⟩) ?_
      refine x_istore C dX6_entry_97 (by decide) ?_
      refine x_aload_n C dX6_entry_99 rfl ?_
      refine x_iload_n C dX6_entry_100 rfl ?_
      refine x_iload_n C dX6_entry_101 rfl ?_
      refine x_iload_n C dX6_entry_102 rfl ?_
      refine x_iload C dX6_entry_103 rfl ?_
      refine x_callV C dX6_entry_105 (ctX6_lay h3 m row col v hm hr hc) okX6_lay lkX6_127 ⟨⟨hM, rfl, rfl⟩, (by omega)⟩ ⟨by decide, rfl, rfl, Nat.le_of_ble_eq_true rfl⟩ rfl (Or.inl ⟨rfl, rfl⟩) ?_
      rw [zsu_u]
      refine x_iload C dX6_entry_108 rfl ?_
      refine x_ldc (v := 1000000) C dX6_entry_110 kcX6_123 (by decide) ?_
      refine x_iadd C dX6_entry_112 ?_
      exact x_iret (st := []) C dX6_entry_113 rfl ⟨congrArg (fun z => some (zi z)) (by first | rfl | omega), rfl, rfl, rfl⟩
    · have hz := zsz_v (d := k) (by omega)
      have q1 := zdvs (k := k) (by omega) hr
      have q2 := zdvs (k := k) (by omega) hc
      refine x_aload_n C dX6_entry_50 rfl ?_
      refine x_iload_n C dX6_entry_51 rfl ?_
      refine x_iload C dX6_entry_52 rfl ?_
      refine x_iload_n C dX6_entry_54 rfl ?_
      refine x_iload C dX6_entry_55 rfl ?_
      refine x_callS C dX6_entry_57 (ctX6_sizeAt k (by omega)) okX6_sizeAt lkX6_67 ⟨by decide, rfl, rfl, Nat.le_of_ble_eq_true rfl⟩ rfl (Or.inl ⟨rfl, rfl⟩) ?_
      refine x_idiv C dX6_entry_60 (by omega) ?_
      refine x_iload_n C dX6_entry_61 rfl ?_
      refine x_iload C dX6_entry_62 rfl ?_
      refine x_callS C dX6_entry_64 (ctX6_sizeAt k (by omega)) okX6_sizeAt lkX6_67 ⟨by decide, rfl, rfl, Nat.le_of_ble_eq_true rfl⟩ rfl (Or.inl ⟨rfl, rfl⟩) ?_
      refine x_idiv C dX6_entry_67 (by omega) ?_
      refine x_callV C dX6_entry_68 (ctX6_cuts h2 hk2.1 m k _ _ hm (by omega) q1 q2) okX6_cuts lkX6_124 ⟨⟨hM, rfl, rfl⟩, (by omega)⟩ ⟨by decide, rfl, rfl, Nat.le_of_ble_eq_true rfl⟩ rfl (Or.inl ⟨rfl, rfl⟩) ?_
      rw [zsu_u, ← eT]
      refine x_iinc C dX6_entry_71 rfl (by decide) ?_
      refine x_goto (tgt := 44) C dX6_entry_74 (by decide) ?_
      exact ih (by omega)
  refine x_aload_n C dX6_entry_0 rfl ?_
  refine x_iconst C dX6_entry_1 ?_
  refine x_putI C dX6_entry_2 lfX6_41 lyX6_0 hM (by omega) (Nat.le_of_ble_eq_true rfl) ?_
  refine x_nm (fun s2 e2 => ?_)
  rw [show s2 = σ from e2.trans (zsu_self hM)]
  clear e2 s2
  refine x_iload_n C dX6_entry_5 rfl ?_
  refine x_callS C dX6_entry_6 (ctX6_isMatrix _ (by omega)) okX6_isMatrix lkX6_104 ⟨by decide, rfl, rfl, Nat.le_of_ble_eq_true rfl⟩ rfl (Or.inl ⟨rfl, rfl⟩) ?_
  refine x_ifeq_d (tgt := 20) C dX6_entry_9 (by decide) (fun c9 => ?_) (fun c9 => ?_)
  · exfalso; omega
  · refine x_iload_n C dX6_entry_12 rfl ?_
    refine x_iload_n C dX6_entry_13 rfl ?_
    refine x_callS C dX6_entry_14 (ctX6_isPlace _ _ (by omega) (by omega)) okX6_isPlace lkX6_118 ⟨by decide, rfl, rfl, Nat.le_of_ble_eq_true rfl⟩ rfl (Or.inl ⟨rfl, rfl⟩) ?_
    refine x_ifne_d (tgt := 22) C dX6_entry_17 (by decide) (fun c17 => ?_) (fun c17 => ?_)
    · refine x_iload C dX6_entry_22 rfl ?_
      refine x_ldc (v := -1000000) C dX6_entry_24 kcX6_122 (by decide) ?_
      refine x_ldc (v := 1000000) C dX6_entry_26 kcX6_123 (by decide) ?_
      refine x_callS C dX6_entry_28 (ctX6_in _ _ _ (by omega) (by omega) (by omega)) okX6_in lkX6_45 ⟨by decide, rfl, rfl, Nat.le_of_ble_eq_true rfl⟩ rfl (Or.inl ⟨rfl, rfl⟩) ?_
      refine x_ifne_d (tgt := 37) C dX6_entry_31 (by decide) (fun c31 => ?_) (fun c31 => ?_)
      · refine x_aload_n C dX6_entry_37 rfl ?_
        refine x_callV C dX6_entry_38 hcn okX6_counts lkX6_112 ⟨⟨hM, rfl, rfl⟩, (by omega)⟩ ⟨by decide, rfl, rfl, Nat.le_of_ble_eq_true rfl⟩ rfl (Or.inl ⟨rfl, rfl⟩) ?_
        have hM := hM1
        refine x_iconst C dX6_entry_41 ?_
        refine x_istore C dX6_entry_42 (by decide) ?_
        have l0 := loop 0 (by omega)
        rw [show zets m row col S1 0 = S1 from rfl, zsu_self hS1] at l0
        exact l0
      · exfalso; omega
    · exfalso; omega
theorem ctX6_shrink (hM : σ 145 = zMO um L p wl lv br bc) (hS0 : σ 146 = zA 1365 S) (hU : σ 148 = zA 8190 U) (hn : 155 ≤ n) (hu : 0 ≤ um ∧ um ≤ 6) (hS : isSo S) (hE : zEn S) (m : Int) (hm : (0 ≤ m ∧ m < 4)) (hv : zVl (zsT S m)) : zCt 13 0 0 yX6_shrink cX6_shrink 3 (some .int) [zr 145, zi m] n σ (some (zi (zrmF (zsT (zcn S) m) 0 0 0 - zrmF (zsT (zsh m (zcn S) 4) m) 0 0 0))) n (zsu (zM4 σ (zMO (zu1 um + 1) L p wl lv br bc) (zcn S) (zU2 um U S)) 146 (zA 1365 (zsh m (zcn S) 4))) := by
  have hcn : zCt 2 0 0 yX6_counts cX6_counts 1 none [zr 145] n σ none n (zM4 σ (zMO (zu1 um + 1) L p wl lv br bc) (zcn S) (zU2 um U S)) := ctX6_counts hM hS0 hU hn hu
  have h1 := zM4_mo (σ := σ) (S := zcn S) (U := zU2 um U S) (um := zu1 um + 1) (L := L) (p := p) (wl := wl) (lv := lv) (br := br) (bc := bc) hn
  have hS := hS.cn
  have hE := hE.cn
  have hv := hv.cn hm
  generalize (zM4 σ (zMO (zu1 um + 1) L p wl lv br bc) (zcn S) (zU2 um U S)) = τ at *
  generalize zcn S = S1 at *
  obtain ⟨⟨um1, L1, p1, wl1, lv1, br1, bc1, hM1⟩, hS1, hn1⟩ := id h1
  have hok := zsh_ok hm ⟨hS, hE, hv⟩ 4 (by decide)
  have h2 := h1.s (zsh m S1 4)
  refine zCt.of (by decide) rfl (Nat.le_of_ble_eq_true rfl) (fun K C => ?_)
  refine x_aload_n C dX6_shrink_0 rfl ?_
  refine x_iconst C dX6_shrink_1 ?_
  refine x_putI C dX6_shrink_2 lfX6_41 lyX6_0 hM (by omega) (Nat.le_of_ble_eq_true rfl) ?_
  refine x_nm (fun s2 e2 => ?_)
  rw [show s2 = σ from e2.trans (zsu_self hM)]
  clear e2 s2
  refine x_iload_n C dX6_shrink_5 rfl ?_
  refine x_callS C dX6_shrink_6 (ctX6_isMatrix _ (by omega)) okX6_isMatrix lkX6_104 ⟨by decide, rfl, rfl, Nat.le_of_ble_eq_true rfl⟩ rfl (Or.inl ⟨rfl, rfl⟩) ?_
  refine x_ifne_d (tgt := 14) C dX6_shrink_9 (by decide) (fun c9 => ?_) (fun c9 => ?_)
  · refine x_aload_n C dX6_shrink_14 rfl ?_
    refine x_callV C dX6_shrink_15 hcn okX6_counts lkX6_112 ⟨⟨hM, rfl, rfl⟩, (by omega)⟩ ⟨by decide, rfl, rfl, Nat.le_of_ble_eq_true rfl⟩ rfl (Or.inl ⟨rfl, rfl⟩) ?_
    have hM := hM1
    refine x_aload_n C dX6_shrink_18 rfl ?_
    refine x_iload_n C dX6_shrink_19 rfl ?_
    refine x_callV C dX6_shrink_20 (ctX6_room h1 hS m hm) okX6_room lkX6_78 ⟨⟨hM, rfl, rfl⟩, (by omega)⟩ ⟨by decide, rfl, rfl, Nat.le_of_ble_eq_true rfl⟩ rfl (Or.inl ⟨rfl, rfl⟩) ?_
    refine x_istore_n C dX6_shrink_23 (by decide) ?_
    refine x_aload_n C dX6_shrink_24 rfl ?_
    refine x_iload_n C dX6_shrink_25 rfl ?_
    refine x_callV C dX6_shrink_26 (ctX6_shrinks h1 m hm ⟨hS, hE, hv⟩) okX6_shrinks lkX6_130 ⟨⟨hM, rfl, rfl⟩, (by omega)⟩ ⟨by decide, rfl, rfl, Nat.le_of_ble_eq_true rfl⟩ rfl (Or.inl ⟨rfl, rfl⟩) ?_
    obtain ⟨⟨um, L, p, wl, lv, br, bc, hM⟩, hS0, hn⟩ := id h2
    refine x_iload_n C dX6_shrink_29 rfl ?_
    refine x_aload_n C dX6_shrink_30 rfl ?_
    refine x_iload_n C dX6_shrink_31 rfl ?_
    refine x_callV C dX6_shrink_32 (ctX6_room h2 hok.1 m hm) okX6_room lkX6_78 ⟨⟨hM, rfl, rfl⟩, (by omega)⟩ ⟨by decide, rfl, rfl, Nat.le_of_ble_eq_true rfl⟩ rfl (Or.inl ⟨rfl, rfl⟩) ?_
    refine x_isub C dX6_shrink_35 ?_
    exact x_iret (st := []) C dX6_shrink_36 rfl ⟨congrArg (fun z => some (zi z)) (by first | rfl | omega), rfl, rfl, rfl⟩
  · exfalso; omega
theorem ctX6_wouldTake {A : Int → Int} (h : isMo σ n S) (hA : σ 147 = zA 1365 A) (hS : isSo S) (hE : zEn S) (m : Int) (hm : (0 ≤ m ∧ m < 4)) (hv : zVl (zsT S m)) : zCt 13 0 0 yX6_wouldTake cX6_wouldTake 3 (some .int) [zr 145, zi m] n σ (some (zi (zrmF (zsT (zsh m S 4) m) 0 0 0))) n (zsu (zsu σ 147 (zA 1365 (zcpy A S 1365))) 146 (zA 1365 (zcpy (zsh m S 4) (zcpy A S 1365) 1365))) := by
  have h1 := h.o (k := 147) (by decide) (zA 1365 (zcpy A S 1365))
  have h2 := h1.s (zsh m S 4)
  have hok := zsh_ok hm ⟨hS, hE, hv⟩ 4 (by decide)
  have hA2 := (zsu_n (zsu σ 147 (zA 1365 (zcpy A S 1365))) (zA 1365 (zsh m S 4)) (show (147 : Int) ≠ 146 by decide)).trans (zsu_s σ 147 (zA 1365 (zcpy A S 1365)))
  obtain ⟨⟨um, L, p, wl, lv, br, bc, hM⟩, hS0, hn⟩ := id h
  refine zCt.of (by decide) rfl (Nat.le_of_ble_eq_true rfl) (fun K C => ?_)
  refine x_aload_n C dX6_wouldTake_0 rfl ?_
  refine x_iconst C dX6_wouldTake_1 ?_
  refine x_putI C dX6_wouldTake_2 lfX6_41 lyX6_0 hM (by omega) (Nat.le_of_ble_eq_true rfl) ?_
  refine x_nm (fun s2 e2 => ?_)
  rw [show s2 = σ from e2.trans (zsu_self hM)]
  clear e2 s2
  refine x_iload_n C dX6_wouldTake_5 rfl ?_
  refine x_callS C dX6_wouldTake_6 (ctX6_isMatrix _ (by omega)) okX6_isMatrix lkX6_104 ⟨by decide, rfl, rfl, Nat.le_of_ble_eq_true rfl⟩ rfl (Or.inl ⟨rfl, rfl⟩) ?_
  refine x_ifne_d (tgt := 14) C dX6_wouldTake_9 (by decide) (fun c9 => ?_) (fun c9 => ?_)
  · refine x_aload_n C dX6_wouldTake_14 rfl ?_
    refine x_callV C dX6_wouldTake_15 (ctX6_putAside h hA) okX6_putAside lkX6_184 ⟨⟨hM, rfl, rfl⟩, (by omega)⟩ ⟨by decide, rfl, rfl, Nat.le_of_ble_eq_true rfl⟩ rfl (Or.inl ⟨rfl, rfl⟩) ?_
    obtain ⟨⟨um, L, p, wl, lv, br, bc, hM⟩, hS0, hn⟩ := id h1
    refine x_aload_n C dX6_wouldTake_18 rfl ?_
    refine x_iload_n C dX6_wouldTake_19 rfl ?_
    refine x_callV C dX6_wouldTake_20 (ctX6_shrinks h1 m hm ⟨hS, hE, hv⟩) okX6_shrinks lkX6_130 ⟨⟨hM, rfl, rfl⟩, (by omega)⟩ ⟨by decide, rfl, rfl, Nat.le_of_ble_eq_true rfl⟩ rfl (Or.inl ⟨rfl, rfl⟩) ?_
    obtain ⟨⟨um, L, p, wl, lv, br, bc, hM⟩, hS0, hn⟩ := id h2
    refine x_aload_n C dX6_wouldTake_23 rfl ?_
    refine x_iload_n C dX6_wouldTake_24 rfl ?_
    refine x_callV C dX6_wouldTake_25 (ctX6_room h2 hok.1 m hm) okX6_room lkX6_78 ⟨⟨hM, rfl, rfl⟩, (by omega)⟩ ⟨by decide, rfl, rfl, Nat.le_of_ble_eq_true rfl⟩ rfl (Or.inl ⟨rfl, rfl⟩) ?_
    refine x_istore_n C dX6_wouldTake_28 (by decide) ?_
    refine x_aload_n C dX6_wouldTake_29 rfl ?_
    refine x_callV C dX6_wouldTake_30 (ctX6_takeBack h2 hA2) okX6_takeBack lkX6_187 ⟨⟨hM, rfl, rfl⟩, (by omega)⟩ ⟨by decide, rfl, rfl, Nat.le_of_ble_eq_true rfl⟩ rfl (Or.inl ⟨rfl, rfl⟩) ?_
    rw [zsu_u]
    refine x_iload_n C dX6_wouldTake_33 rfl ?_
    exact x_iret (st := []) C dX6_wouldTake_34 rfl ⟨congrArg (fun z => some (zi z)) (by first | rfl | omega), rfl, rfl, rfl⟩
  · exfalso; omega
/-- so much of a matrix is copied -/
def zcm (S : Int → Int) (m q k : Int) : Int → Int := fun j => if 341 * m ≤ j ∧ j < 341 * m + k then S (j - 341 * m + 341 * q) else S j
theorem zcm_0 (S : Int → Int) (m q : Int) : zcm S m q 0 = S := funext fun j => if_neg (by omega)
theorem zcm_s (S : Int → Int) {m q k : Int} (hm : (0 ≤ m ∧ m < 4)) (hq : (0 ≤ q ∧ q < 4)) (hne : m ≠ q) (hk : 0 ≤ k ∧ k < 341) : zu (zcm S m q k) (341 * m + k) (zcm S m q k (341 * q + k)) = zcm S m q (k + 1) := by
  have e : zcm S m q k (341 * q + k) = S (341 * q + k) := if_neg (by omega)
  rw [e]
  funext j
  unfold zu zcm
  by_cases c : j = 341 * m + k
  · rw [if_pos c, if_pos (by omega), show j - 341 * m + 341 * q = 341 * q + k by omega]
  · rw [if_neg c]
    by_cases c2 : 341 * m ≤ j ∧ j < 341 * m + k
    · rw [if_pos c2, if_pos (by omega)]
    · rw [if_neg c2, if_neg (by omega)]
theorem zcm_so {S : Int → Int} (h : isSo S) {m q : Int} (hm : (0 ≤ m ∧ m < 4)) (hq : (0 ≤ q ∧ q < 4)) : isSo (zcm S m q 341) := by
  intro m2 k h1 h2 h3 h4
  unfold zsT zcm
  split
  · rw [show 341 * m2 + k - 341 * m + 341 * q = 341 * q + k by omega]
    exact h q k hq.1 hq.2 h3 h4
  · exact h m2 k h1 h2 h3 h4
theorem ctX6_copy (hM : σ 145 = zMO um L p wl lv br bc) (hS0 : σ 146 = zA 1365 S) (hU : σ 148 = zA 8190 U) (hn : 155 ≤ n) (hu : 0 ≤ um ∧ um ≤ 6) (hS : isSo S) (hE : zEn S) (m q : Int) (hm : (0 ≤ m ∧ m < 4)) (hq : (0 ≤ q ∧ q < 4)) (hne : m ≠ q) : zCt 13 0 0 yX6_copy cX6_copy 4 (some .int) [zr 145, zi m, zi q] n σ (some (zi (zrmF (zsT (zcm (zcn S) m q 341) m) 0 0 0))) n (zsu (zM4 σ (zMO (zu1 um + 1) L p wl lv br bc) (zcn S) (zU2 um U S)) 146 (zA 1365 (zcm (zcn S) m q 341))) := by
  have hcn : zCt 2 0 0 yX6_counts cX6_counts 1 none [zr 145] n σ none n (zM4 σ (zMO (zu1 um + 1) L p wl lv br bc) (zcn S) (zU2 um U S)) := ctX6_counts hM hS0 hU hn hu
  have h1 := zM4_mo (σ := σ) (S := zcn S) (U := zU2 um U S) (um := zu1 um + 1) (L := L) (p := p) (wl := wl) (lv := lv) (br := br) (bc := bc) hn
  have hS := hS.cn
  have hE := hE.cn
  generalize (zM4 σ (zMO (zu1 um + 1) L p wl lv br bc) (zcn S) (zU2 um U S)) = τ at *
  generalize zcn S = S1 at *
  obtain ⟨⟨um1, L1, p1, wl1, lv1, br1, bc1, hM1⟩, hS1, hn1⟩ := id h1
  refine zCt.of (by decide) rfl (Nat.le_of_ble_eq_true rfl) (fun K C => ?_)
  have loop : ∀ k : Nat, k ≤ 341 → K 35 [some (zr 145), some (zi m), some (zi q), some (zi (k : Int))] [] n (zsu τ 146 (zA 1365 (zcm S1 m q k))) 0 := by
    refine zloop _ 341 (fun k hk ih => ?_)
    obtain ⟨⟨um, L, p, wl, lv, br, bc, hM⟩, hS0, hn⟩ := h1.s (zcm S1 m q k)
    have hroom := ctX6_room (h1.s (zcm S1 m q 341)) (zcm_so hS hm hq) m hm
    refine x_iload_n C dX6_copy_35 rfl ?_
    refine x_sipush C dX6_copy_36 (by decide) ?_
    refine x_icmp_ge (tgt := 72) C dX6_copy_39 (by decide) (by omega) (fun c39 => ?_) (fun c39 => ?_)
    · rw [show (k : Int) = 341 by omega]
      refine x_aload_n C dX6_copy_72 rfl ?_
      refine x_iload_n C dX6_copy_73 rfl ?_
      refine x_callV C dX6_copy_74 hroom okX6_room lkX6_78 ⟨⟨hM, rfl, rfl⟩, (by omega)⟩ ⟨by decide, rfl, rfl, Nat.le_of_ble_eq_true rfl⟩ rfl (Or.inl ⟨rfl, rfl⟩) ?_
      exact x_iret (st := []) C dX6_copy_77 rfl ⟨congrArg (fun z => some (zi z)) (by first | rfl | omega), rfl, rfl, rfl⟩
    · refine x_aload_n C dX6_copy_42 rfl ?_
      refine x_getfield C dX6_copy_43 lfX6_7 hM (by omega) rfl ?_
      refine x_sipush C dX6_copy_46 (by decide) ?_
      refine x_iload_n C dX6_copy_49 rfl ?_
      refine x_imul C dX6_copy_50 ?_
      refine x_iload_n C dX6_copy_51 rfl ?_
      refine x_iadd C dX6_copy_52 ?_
      refine x_aload_n C dX6_copy_53 rfl ?_
      refine x_getfield C dX6_copy_54 lfX6_7 hM (by omega) rfl ?_
      refine x_sipush C dX6_copy_57 (by decide) ?_
      refine x_iload_n C dX6_copy_60 rfl ?_
      refine x_imul C dX6_copy_61 ?_
      refine x_iload_n C dX6_copy_62 rfl ?_
      refine x_iadd C dX6_copy_63 ?_
      refine x_iaload C dX6_copy_64 hS0 (by omega) ?_
      refine x_iastore C dX6_copy_65 hS0 (by omega) ?_
      refine x_nm (fun s65 e65 => ?_)
      have hM := (congrFun e65 145).trans ((zsu_n _ _ (by omega)).trans hM)
      have hS0 := (congrFun e65 146).trans (zsu_s _ _ _)
      have ih := ih (by omega)
      rw [show ((k + 1 : Nat) : Int) = (k : Int) + 1 by omega, ← zcm_s S1 hm hq hne (by omega)] at ih
      rw [e65, zsu_u]
      refine x_iinc C dX6_copy_66 rfl (by decide) ?_
      refine x_goto (tgt := 35) C dX6_copy_69 (by decide) ?_
      exact ih
  refine x_aload_n C dX6_copy_0 rfl ?_
  refine x_iconst C dX6_copy_1 ?_
  refine x_putI C dX6_copy_2 lfX6_41 lyX6_0 hM (by omega) (Nat.le_of_ble_eq_true rfl) ?_
  refine x_nm (fun s2 e2 => ?_)
  rw [show s2 = σ from e2.trans (zsu_self hM)]
  clear e2 s2
  refine x_iload_n C dX6_copy_5 rfl ?_
  refine x_callS C dX6_copy_6 (ctX6_isMatrix _ (by omega)) okX6_isMatrix lkX6_104 ⟨by decide, rfl, rfl, Nat.le_of_ble_eq_true rfl⟩ rfl (Or.inl ⟨rfl, rfl⟩) ?_
  refine x_ifeq_d (tgt := 19) C dX6_copy_9 (by decide) (fun c9 => ?_) (fun c9 => ?_)
  · exfalso; omega
  · refine x_iload_n C dX6_copy_12 rfl ?_
    refine x_callS C dX6_copy_13 (ctX6_isMatrix _ (by omega)) okX6_isMatrix lkX6_104 ⟨by decide, rfl, rfl, Nat.le_of_ble_eq_true rfl⟩ rfl (Or.inl ⟨rfl, rfl⟩) ?_
    refine x_ifne_d (tgt := 21) C dX6_copy_16 (by decide) (fun c16 => ?_) (fun c16 => ?_)
    · refine x_iload_n C dX6_copy_21 rfl ?_
      refine x_iload_n C dX6_copy_22 rfl ?_
      refine x_icmp_ne (tgt := 29) C dX6_copy_23 (by decide) (by omega) (fun c23 => ?_) (fun c23 => ?_)
      · refine x_aload_n C dX6_copy_29 rfl ?_
        refine x_callV C dX6_copy_30 hcn okX6_counts lkX6_112 ⟨⟨hM, rfl, rfl⟩, (by omega)⟩ ⟨by decide, rfl, rfl, Nat.le_of_ble_eq_true rfl⟩ rfl (Or.inl ⟨rfl, rfl⟩) ?_
        have hM := hM1
        have hS0 := hS1
        refine x_iconst C dX6_copy_33 ?_
        refine x_istore_n C dX6_copy_34 (by decide) ?_
        have l0 := loop 0 (by omega)
        rw [show ((0 : Nat) : Int) = 0 from rfl, zcm_0, zsu_self hS1] at l0
        exact l0
      · exact absurd c23 hne
    · exfalso; omega
/-- a square gets zeros -/
def zclr (m row col z : Int) (S : Int → Int) : Nat → Int → Int := zfo (fun T k => zu T (341 * m + 85 + ((row / z * z + k / z) * 16 + (col / z * z + k % z))) 0) S
theorem ctX6_clear (hM : σ 145 = zMO um L p wl lv br bc) (hS0 : σ 146 = zA 1365 S) (hU : σ 148 = zA 8190 U) (hn : 155 ≤ n) (hu : 0 ≤ um ∧ um ≤ 6) (hS : isSo S) (hE : zEn S) (m row col : Int) (hm : (0 ≤ m ∧ m < 4)) (hr : 0 ≤ row ∧ row < 16) (hc : 0 ≤ col ∧ col < 16) (hl : zsT S m (zno 0 row col) = 3 → zsT S m (zno 1 row col) = 3 → zsT S m (zno 2 row col) = 3 → zsT S m (zno 3 row col) ≠ 3) : zCt 13 0 0 yX6_clear cX6_clear 7 (some .int) [zr 145, zi m, zi row, zi col] n σ (some (zi (zsz (zdp (zsT (zcn S) m) row col)))) n (zsu (zM4 σ (zMO (zu1 um + 1) L p wl lv br bc) (zcn S) (zU2 um U S)) 146 (zA 1365 (zclr m row col (zsz (zdp (zsT (zcn S) m) row col)) (zu (zcn S) (341 * m + zmn (zdp (zsT (zcn S) m) row col) (row / zsz (zdp (zsT (zcn S) m) row col)) (col / zsz (zdp (zsT (zcn S) m) row col))) 0) (zsz (zdp (zsT (zcn S) m) row col) * zsz (zdp (zsT (zcn S) m) row col)).toNat))) := by
  have hcn : zCt 2 0 0 yX6_counts cX6_counts 1 none [zr 145] n σ none n (zM4 σ (zMO (zu1 um + 1) L p wl lv br bc) (zcn S) (zU2 um U S)) := ctX6_counts hM hS0 hU hn hu
  have h1 := zM4_mo (σ := σ) (S := zcn S) (U := zU2 um U S) (um := zu1 um + 1) (L := L) (p := p) (wl := wl) (lv := lv) (br := br) (bc := bc) hn
  have hS := hS.cn
  have hE := hE.cn
  have hno : ∀ k : Int, 0 ≤ k ∧ k ≤ 3 → zsT (zcn S) m (zno k row col) = zsT S m (zno k row col) := by
    intro k hk
    have q := zmn_in hk (zdvs hk hr) (zdvs hk hc)
    exact zsT_cn S hm q
  rw [← hno 0 (by decide), ← hno 1 (by decide), ← hno 2 (by decide), ← hno 3 (by decide)] at hl
  generalize (zM4 σ (zMO (zu1 um + 1) L p wl lv br bc) (zcn S) (zU2 um U S)) = τ at *
  generalize zcn S = S1 at *
  obtain ⟨⟨um1, L1, p1, wl1, lv1, br1, bc1, hM1⟩, hS1, hn1⟩ := id h1
  have hD := ctX6_depthAt h1 hS m row col hm hr hc hl
  have hdz := zdp_in (zsT S1 m) row col
  generalize zdp (zsT S1 m) row col = d at *
  have q1 := zdvs hdz hr
  have q2 := zdvs hdz hc
  have hzp := zsz_p2 hdz
  have hbl : ∀ a : Int, 0 ≤ a ∧ a < zp2 d → 0 ≤ a * zsz d ∧ a * zsz d + zsz d ≤ 16 := by
    intro a ha
    have hz := zsz_v hdz
    have h1 : 0 ≤ a * zsz d := Int.mul_nonneg ha.1 (by omega)
    have h2 : (a + 1) * zsz d ≤ zp2 d * zsz d := Int.mul_le_mul_of_nonneg_right (by omega) (by omega)
    rw [Int.mul_comm (zp2 d), hzp, Int.add_mul] at h2
    omega
  have hr2 := hbl _ q1
  have hc2 := hbl _ q2
  obtain ⟨N, hN, hN2⟩ := zszN hdz
  have hSo := ctX6_sorts h1 m d (row / zsz d) (col / zsz d) 0 hm hdz q1 q2
  have hZ := ctX6_sizeAt (n := n) (σ := τ) d hdz
  generalize hT0 : zu S1 (341 * m + zmn d (row / zsz d) (col / zsz d)) 0 = T0 at *
  rw [hN] at hr2 hc2 hSo hZ ⊢
  rw [show ((N : Int) * N).toNat = N * N by rw [← Int.natCast_mul]; rfl]
  have hNN : N * N ≤ 256 := Nat.mul_le_mul hN2.2 hN2.2
  have hcast : ((N * N : Nat) : Int) = (N : Int) * N := Int.natCast_mul N N
  refine zCt.of (by decide) rfl (Nat.le_of_ble_eq_true rfl) (fun K C => ?_)
  have loop : ∀ k : Nat, k ≤ N * N → K 61 [some (zr 145), some (zi m), some (zi row), some (zi col), some (zi d), some (zi (N : Int)), some (zi (k : Int))] [] n (zsu τ 146 (zA 1365 (zclr m row col N T0 k))) 0 := by
    refine zloop _ (N * N) (fun k hk ih => ?_)
    have eT : zclr m row col N T0 (k + 1) = zu (zclr m row col N T0 k) (341 * m + 85 + ((row / N * N + k / N) * 16 + (col / N * N + k % N))) 0 := rfl
    have eE : k = N * N → zclr m row col N T0 k = zclr m row col N T0 (N * N) := by
      rintro rfl
      rfl
    have h2 := h1.s (zclr m row col N T0 k)
    generalize zclr m row col N T0 k = T at *
    obtain ⟨⟨um, L, p, wl, lv, br, bc, hM⟩, hS0, hn⟩ := id h2
    refine x_iload C dX6_clear_61 rfl ?_
    refine x_iload C dX6_clear_63 rfl ?_
    refine x_iload C dX6_clear_65 rfl ?_
    refine x_imul C dX6_clear_67 ?_
    refine x_icmp_ge (tgt := 109) C dX6_clear_68 (by decide) (by omega) (fun c68 => ?_) (fun c68 => ?_)
    · refine x_iload C dX6_clear_109 rfl ?_
      exact x_iret (st := []) C dX6_clear_111 rfl ⟨rfl, rfl, by rw [eE (by omega)], rfl⟩
    · have hd := zdm (N := N) (k := k) (by omega)
      refine x_aload_n C dX6_clear_71 rfl ?_
      refine x_iload_n C dX6_clear_72 rfl ?_
      refine x_iload_n C dX6_clear_73 rfl ?_
      refine x_iload C dX6_clear_74 rfl ?_
      refine x_idiv C dX6_clear_76 (by omega) ?_
      refine x_iload C dX6_clear_77 rfl ?_
      refine x_imul C dX6_clear_79 ?_
      refine x_iload C dX6_clear_80 rfl ?_
      refine x_iload C dX6_clear_82 rfl ?_
      refine x_idiv C dX6_clear_84 (by omega) ?_
      refine x_iadd C dX6_clear_85 ?_
      refine x_iload_n C dX6_clear_86 rfl ?_
      refine x_iload C dX6_clear_87 rfl ?_
      refine x_idiv C dX6_clear_89 (by omega) ?_
      refine x_iload C dX6_clear_90 rfl ?_
      refine x_imul C dX6_clear_92 ?_
      refine x_iload C dX6_clear_93 rfl ?_
      refine x_iload C dX6_clear_95 rfl ?_
      refine x_irem C dX6_clear_97 (by omega) ?_
      refine x_iadd C dX6_clear_98 ?_
      refine x_iconst C dX6_clear_99 ?_
      refine x_callV C dX6_clear_100 (ctX6_lay h2 m _ _ 0 hm (by omega) (by omega)) okX6_lay lkX6_127 ⟨⟨hM, rfl, rfl⟩, (by omega)⟩ ⟨by decide, rfl, rfl, Nat.le_of_ble_eq_true rfl⟩ rfl (Or.inl ⟨rfl, rfl⟩) ?_
      rw [zsu_u, ← eT]
      refine x_iinc C dX6_clear_103 rfl (by decide) ?_
      refine x_goto (tgt := 61) C dX6_clear_106 (by decide) ?_
      exact ih (by omega)
  refine x_aload_n C dX6_clear_0 rfl ?_
  refine x_iconst C dX6_clear_1 ?_
  refine x_putI C dX6_clear_2 lfX6_41 lyX6_0 hM (by omega) (Nat.le_of_ble_eq_true rfl) ?_
  refine x_nm (fun s2 e2 => ?_)
  rw [show s2 = σ from e2.trans (zsu_self hM)]
  clear e2 s2
  refine x_iload_n C dX6_clear_5 rfl ?_
  refine x_callS C dX6_clear_6 (ctX6_isMatrix _ (by omega)) okX6_isMatrix lkX6_104 ⟨by decide, rfl, rfl, Nat.le_of_ble_eq_true rfl⟩ rfl (Or.inl ⟨rfl, rfl⟩) ?_
  refine x_ifeq_d (tgt := 20) C dX6_clear_9 (by decide) (fun c9 => ?_) (fun c9 => ?_)
  · exfalso; omega
  · refine x_iload_n C dX6_clear_12 rfl ?_
    refine x_iload_n C dX6_clear_13 rfl ?_
    refine x_callS C dX6_clear_14 (ctX6_isPlace _ _ (by omega) (by omega)) okX6_isPlace lkX6_118 ⟨by decide, rfl, rfl, Nat.le_of_ble_eq_true rfl⟩ rfl (Or.inl ⟨rfl, rfl⟩) ?_
    refine x_ifne_d (tgt := 22) C dX6_clear_17 (by decide) (fun c17 => ?_) (fun c17 => ?_)
    · refine x_aload_n C dX6_clear_22 rfl ?_
      refine x_callV C dX6_clear_23 hcn okX6_counts lkX6_112 ⟨⟨hM, rfl, rfl⟩, (by omega)⟩ ⟨by decide, rfl, rfl, Nat.le_of_ble_eq_true rfl⟩ rfl (Or.inl ⟨rfl, rfl⟩) ?_
      have hM := hM1
      refine x_aload_n C dX6_clear_26 rfl ?_
      refine x_iload_n C dX6_clear_27 rfl ?_
      refine x_iload_n C dX6_clear_28 rfl ?_
      refine x_iload_n C dX6_clear_29 rfl ?_
      refine x_callV C dX6_clear_30 hD okX6_depthAt lkX6_152 ⟨⟨hM, rfl, rfl⟩, (by omega)⟩ ⟨by decide, rfl, rfl, Nat.le_of_ble_eq_true rfl⟩ rfl (Or.inl ⟨rfl, rfl⟩) ?_
      refine x_istore C dX6_clear_33 (by decide) ?_
      refine x_iload C dX6_clear_35 rfl ?_
      refine x_callS C dX6_clear_37 hZ okX6_sizeAt lkX6_67 ⟨by decide, rfl, rfl, Nat.le_of_ble_eq_true rfl⟩ rfl (Or.inl ⟨rfl, rfl⟩) ?_
      refine x_istore C dX6_clear_40 (by decide) ?_
      refine x_aload_n C dX6_clear_42 rfl ?_
      refine x_iload_n C dX6_clear_43 rfl ?_
      refine x_iload C dX6_clear_44 rfl ?_
      refine x_iload_n C dX6_clear_46 rfl ?_
      refine x_iload C dX6_clear_47 rfl ?_
      refine x_idiv C dX6_clear_49 (by omega) ?_
      refine x_iload_n C dX6_clear_50 rfl ?_
      refine x_iload C dX6_clear_51 rfl ?_
      refine x_idiv C dX6_clear_53 (by omega) ?_
      refine x_iconst C dX6_clear_54 ?_
      refine x_callV C dX6_clear_55 hSo okX6_sorts lkX6_96 ⟨⟨hM, rfl, rfl⟩, (by omega)⟩ ⟨by decide, rfl, rfl, Nat.le_of_ble_eq_true rfl⟩ rfl (Or.inl ⟨rfl, rfl⟩) ?_
      obtain ⟨⟨um, L, p, wl, lv, br, bc, hM⟩, hS0, hn⟩ := h1.s T0
      refine x_iconst C dX6_clear_58 ?_
      refine x_istore C dX6_clear_59 (by decide) ?_
      exact loop 0 (by omega)
    · exfalso; omega
end
