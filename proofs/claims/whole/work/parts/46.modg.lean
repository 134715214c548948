/-- the history of the model -/
def zU1 (um : Int) (U : Int → Int) : Int → Int := if um = 6 then (fun k => if 0 ≤ k ∧ k < 6825 then U (k + 1365) else U k) else U
def zu1 (um : Int) : Int := if um = 6 then 5 else um
def zU2 (um : Int) (U S : Int → Int) : Int → Int := fun k => if 1365 * zu1 um ≤ k ∧ k < 1365 * zu1 um + 1365 then S (k - 1365 * zu1 um) else zU1 um U k
def zcpy (A B : Int → Int) (k : Int) : Int → Int := fun j => if 0 ≤ j ∧ j < k then B j else A j
theorem zcpy_0 (A B : Int → Int) : zcpy A B 0 = A := funext fun j => if_neg (by omega)
theorem zcpy_s (A B : Int → Int) {k : Int} (hk : 0 ≤ k) : zu (zcpy A B k) k (B k) = zcpy A B (k + 1) := by
  funext j
  unfold zu zcpy
  by_cases c : j = k
  · rw [if_pos c, if_pos (by omega), c]
  · rw [if_neg c]
    by_cases c2 : 0 ≤ j ∧ j < k
    · rw [if_pos c2, if_pos (by omega)]
    · rw [if_neg c2, if_neg (by omega)]
theorem zcpy_in (A B : Int → Int) {k j : Int} (h : 0 ≤ j ∧ j < k) : zcpy A B k j = B j := if_pos h
theorem zcpy_out (A B : Int → Int) {k j : Int} (h : k ≤ j) : zcpy A B k j = A j := if_neg (by omega)
section
variable {n : Nat} {σ : zS} {S : Int → Int}
theorem ctX6_shrinks (h : isMo σ n S) (m : Int) (hm : 0 ≤ m ∧ m < 4) (hok : okM m S) : zCt 6 0 0 yX6_shrinks cX6_shrinks 5 none [zr 145, zi m] n σ none n (zsu σ 146 (zA 1365 (zsh m S 4))) := by
  obtain ⟨⟨um, L, p, wl, lv, br, bc, hM⟩, hS0, hn⟩ := id h
  refine zCt.of (by decide) rfl (Nat.le_of_ble_eq_true rfl) (fun K C => ?_)
  have loop : ∀ j : Nat, j ≤ 4 → okM m (zsh m S j) → K 2 [some (zr 145), some (zi m), some (zi (3 - (j : Int))), none, none] [] n (zsu σ 146 (zA 1365 (zsh m S j))) 0 := by
    refine zloop _ 4 (fun j hj ihj => ?_)
    intro hokj
    have eJ : zsh m S (j + 1) = zlv m (3 - j) (zp2 (3 - j)) (zsh m S j) (zp2 (3 - j) * zp2 (3 - j)).toNat := rfl
    have eE : j = 4 → zsh m S j = zsh m S 4 := by
      rintro rfl
      rfl
    generalize zsh m S j = T at *
    have inner : 0 ≤ 3 - (j : Int) → ∀ N : Nat, zp2 (3 - (j : Int)) = N → ∀ k : Nat, k ≤ N * N → okM m (zlv m (3 - (j : Int)) N T k) → K 13 [some (zr 145), some (zi m), some (zi (3 - (j : Int))), some (zi (N : Int)), some (zi (k : Int))] [] n (zsu σ 146 (zA 1365 (zlv m (3 - (j : Int)) N T k))) 0 := by
      intro hb N hN
      have hN8 : 1 ≤ N ∧ N ≤ 8 := by have := zp2_v (d := 3 - (j : Int)) (by omega); omega
      have hNN : N * N ≤ 64 := Nat.mul_le_mul hN8.2 hN8.2
      have hcast : ((N * N : Nat) : Int) = (N : Int) * N := Int.natCast_mul N N
      refine zloop _ (N * N) (fun k hk ih => ?_)
      intro hokk
      have eK : zlv m (3 - (j : Int)) N T (k + 1) = zlvs m (3 - (j : Int)) N (zlv m (3 - (j : Int)) N T k) k := rfl
      have eKE : k = N * N → zlv m (3 - (j : Int)) N T k = zsh m S (j + 1) := by
        rintro rfl
        rw [eJ, hN, show ((N : Int) * N).toNat = N * N by rw [← hcast]; rfl]
      generalize zlv m (3 - (j : Int)) N T k = Q at *
      have h2 := h.s Q
      obtain ⟨⟨um, L, p, wl, lv, br, bc, hM⟩, hS1, hn⟩ := id h2
      refine x_iload C dX6_shrinks_13 rfl ?_
      refine x_iload_n C dX6_shrinks_15 rfl ?_
      refine x_iload_n C dX6_shrinks_16 rfl ?_
      refine x_imul C dX6_shrinks_17 ?_
      refine x_icmp_ge (tgt := 58) C dX6_shrinks_18 (by decide) (by omega) (fun c18 => ?_) (fun c18 => ?_)
      · have e9 := eKE (by omega)
        rw [e9] at hokk ⊢
        have ihj := ihj (by omega) hokk
        refine x_iinc C dX6_shrinks_58 rfl (by decide) ?_
        refine x_goto (tgt := 2) C dX6_shrinks_61 (by decide) ?_
        rw [show 3 - ((j + 1 : Nat) : Int) = 3 - (j : Int) + (-1) by omega] at ihj
        exact x_wk C rfl ihj
      · have hq := zdm (N := N) (k := k) (by omega)
        rw [← hN] at hq
        have hok2 := zlvs_ok hokk hm (d := 3 - (j : Int)) (k := k) (by omega) hq.1 hq.2
        rw [hN] at hq hok2
        have hv3 : zvis (zsT Q m) (3 - (j : Int)) ((k : Int) / N) ((k : Int) % N) = true → 3 - (j : Int) = 3 → zsT Q m (zmn (3 - (j : Int)) ((k : Int) / N) ((k : Int) % N)) ≠ 3 := by
          intro z1 z2
          rw [z2] at z1 ⊢
          have h8 : (N : Int) = 8 := by rw [← hN, z2]; rfl
          exact hokk.2.2 _ _ (by omega) (by omega) z1
        refine x_aload_n C dX6_shrinks_21 rfl ?_
        refine x_iload_n C dX6_shrinks_22 rfl ?_
        refine x_iload_n C dX6_shrinks_23 rfl ?_
        refine x_iload C dX6_shrinks_24 rfl ?_
        refine x_iload_n C dX6_shrinks_26 rfl ?_
        refine x_idiv C dX6_shrinks_27 (by omega) ?_
        refine x_iload C dX6_shrinks_28 rfl ?_
        refine x_iload_n C dX6_shrinks_30 rfl ?_
        refine x_irem C dX6_shrinks_31 (by omega) ?_
        refine x_callV C dX6_shrinks_32 (ctX6_isThere h2 hokk.1 m (3 - (j : Int)) _ _ hm (by omega) (by rw [hN]; exact hq.1) (by rw [hN]; exact hq.2)) okX6_isThere lkX6_63 ⟨⟨hM, rfl, rfl⟩, (by omega)⟩ ⟨by decide, rfl, rfl, Nat.le_of_ble_eq_true rfl⟩ rfl (Or.inl ⟨rfl, rfl⟩) ?_
        refine x_ifeq_b (tgt := 52) C dX6_shrinks_35 (by decide) (fun c35 => ?_) (fun c35 => ?_)
        · have eF : zlvs m (3 - (j : Int)) N Q k = _ := if_neg (by rw [c35]; decide)
          rw [eK] at ih
          have ih := ih (by omega) hok2
          rw [eF] at ih
          refine x_iinc C dX6_shrinks_52 rfl (by decide) ?_
          refine x_goto (tgt := 13) C dX6_shrinks_55 (by decide) ?_
          exact ih
        · have eF : zlvs m (3 - (j : Int)) N Q k = _ := if_pos c35
          refine x_aload_n C dX6_shrinks_38 rfl ?_
          refine x_iload_n C dX6_shrinks_39 rfl ?_
          refine x_iload_n C dX6_shrinks_40 rfl ?_
          refine x_iload C dX6_shrinks_41 rfl ?_
          refine x_iload_n C dX6_shrinks_43 rfl ?_
          refine x_idiv C dX6_shrinks_44 (by omega) ?_
          refine x_iload C dX6_shrinks_45 rfl ?_
          refine x_iload_n C dX6_shrinks_47 rfl ?_
          refine x_irem C dX6_shrinks_48 (by omega) ?_
          refine x_callV C dX6_shrinks_49 (ctX6_shrinksBlock h2 hokk.1 hokk.2.1 m (3 - (j : Int)) _ _ hm (by omega) (by rw [hN]; exact hq.1) (by rw [hN]; exact hq.2) (hv3 c35)) okX6_shrinksBlock lkX6_100 ⟨⟨hM, rfl, rfl⟩, (by omega)⟩ ⟨by decide, rfl, rfl, Nat.le_of_ble_eq_true rfl⟩ rfl (Or.inl ⟨rfl, rfl⟩) ?_
          rw [zsu_u]
          rw [eK] at ih
          have ih := ih (by omega) hok2
          rw [eF] at ih
          refine x_iinc C dX6_shrinks_52 rfl (by decide) ?_
          refine x_goto (tgt := 13) C dX6_shrinks_55 (by decide) ?_
          exact ih
    refine x_iload_n C dX6_shrinks_2 rfl ?_
    refine x_if_lt (tgt := 64) C dX6_shrinks_3 (by decide) (by omega) (fun c3 => ?_) (fun c3 => ?_)
    · exact x_vret (st := []) C dX6_shrinks_64 rfl ⟨rfl, rfl, by rw [eE (by omega)], rfl⟩
    · refine x_iconst C dX6_shrinks_6 ?_
      refine x_iload_n C dX6_shrinks_7 rfl ?_
      refine x_ishl C dX6_shrinks_8 (by omega) ?_
      obtain ⟨N, hN, -⟩ := zp2N (d := 3 - (j : Int)) (by omega)
      rw [show (1 : Int) * 2 ^ (3 - (j : Int)).toNat = N by rw [zp2_e (by omega), hN]; omega]
      refine x_istore_n C dX6_shrinks_9 (by decide) ?_
      refine x_iconst C dX6_shrinks_10 ?_
      refine x_istore C dX6_shrinks_11 (by decide) ?_
      exact inner (by omega) N hN 0 (by omega) hokj
  refine x_iconst C dX6_shrinks_0 ?_
  refine x_istore_n C dX6_shrinks_1 (by decide) ?_
  have h0 := loop 0 (by omega) hok
  rw [show zsh m S 0 = S from rfl, zsu_self hS0] at h0
  exact h0
theorem ctX6_putAside {A : Int → Int} (h : isMo σ n S) (hA : σ 147 = zA 1365 A) : zCt 1 0 0 yX6_putAside cX6_putAside 2 none [zr 145] n σ none n (zsu σ 147 (zA 1365 (zcpy A S 1365))) := by
  obtain ⟨⟨um, L, p, wl, lv, br, bc, hM⟩, hS0, hn⟩ := id h
  refine zCt.of (by decide) rfl (Nat.le_of_ble_eq_true rfl) (fun K C => ?_)
  have loop : ∀ k : Nat, k ≤ 1365 → K 2 [some (zr 145), some (zi (k : Int))] [] n (zsu σ 147 (zA 1365 (zcpy A S k))) 0 := by
    refine zloop _ 1365 (fun k hk ih => ?_)
    have hM := (zsu_n σ (zA 1365 (zcpy A S k)) (show (145 : Int) ≠ 147 by decide)).trans hM
    have hS0 := (zsu_n σ (zA 1365 (zcpy A S k)) (show (146 : Int) ≠ 147 by decide)).trans hS0
    have hA := zsu_s σ 147 (zA 1365 (zcpy A S k))
    refine x_iload_n C dX6_putAside_2 rfl ?_
    refine x_sipush C dX6_putAside_3 (by decide) ?_
    refine x_icmp_ge (tgt := 27) C dX6_putAside_6 (by decide) (by omega) (fun c6 => ?_) (fun c6 => ?_)
    · exact x_vret (st := []) C dX6_putAside_27 rfl ⟨rfl, rfl, by rw [show (k : Int) = 1365 by omega], rfl⟩
    · refine x_aload_n C dX6_putAside_9 rfl ?_
      refine x_getfield C dX6_putAside_10 lfX6_13 hM (by omega) rfl ?_
      refine x_iload_n C dX6_putAside_13 rfl ?_
      refine x_aload_n C dX6_putAside_14 rfl ?_
      refine x_getfield C dX6_putAside_15 lfX6_7 hM (by omega) rfl ?_
      refine x_iload_n C dX6_putAside_18 rfl ?_
      refine x_iaload C dX6_putAside_19 hS0 (by omega) ?_
      refine x_iastore C dX6_putAside_20 hA (by omega) ?_
      refine x_nm (fun s20 e20 => ?_)
      have hM := (congrFun e20 145).trans ((zsu_n _ _ (by omega)).trans hM)
      have hS0 := (congrFun e20 146).trans ((zsu_n _ _ (by omega)).trans hS0)
      have hA := (congrFun e20 147).trans (zsu_s _ _ _)
      have ih := ih (by omega)
      rw [show ((k + 1 : Nat) : Int) = (k : Int) + 1 by omega, ← zcpy_s _ _ (show 0 ≤ (k : Int) by omega)] at ih
      rw [e20, zsu_u]
      refine x_iinc C dX6_putAside_21 rfl (by decide) ?_
      refine x_goto (tgt := 2) C dX6_putAside_24 (by decide) ?_
      exact ih
  refine x_iconst C dX6_putAside_0 ?_
  refine x_istore_n C dX6_putAside_1 (by decide) ?_
  have h0 := loop 0 (by omega)
  rw [show ((0 : Nat) : Int) = 0 from rfl, zcpy_0, zsu_self hA] at h0
  exact h0
theorem ctX6_takeBack {A : Int → Int} (h : isMo σ n S) (hA : σ 147 = zA 1365 A) : zCt 1 0 0 yX6_takeBack cX6_takeBack 2 none [zr 145] n σ none n (zsu σ 146 (zA 1365 (zcpy S A 1365))) := by
  obtain ⟨⟨um, L, p, wl, lv, br, bc, hM⟩, hS0, hn⟩ := id h
  refine zCt.of (by decide) rfl (Nat.le_of_ble_eq_true rfl) (fun K C => ?_)
  have loop : ∀ k : Nat, k ≤ 1365 → K 2 [some (zr 145), some (zi (k : Int))] [] n (zsu σ 146 (zA 1365 (zcpy S A k))) 0 := by
    refine zloop _ 1365 (fun k hk ih => ?_)
    have hM := (zsu_n σ (zA 1365 (zcpy S A k)) (show (145 : Int) ≠ 146 by decide)).trans hM
    have hA := (zsu_n σ (zA 1365 (zcpy S A k)) (show (147 : Int) ≠ 146 by decide)).trans hA
    have hS0 := zsu_s σ 146 (zA 1365 (zcpy S A k))
    refine x_iload_n C dX6_takeBack_2 rfl ?_
    refine x_sipush C dX6_takeBack_3 (by decide) ?_
    refine x_icmp_ge (tgt := 27) C dX6_takeBack_6 (by decide) (by omega) (fun c6 => ?_) (fun c6 => ?_)
    · exact x_vret (st := []) C dX6_takeBack_27 rfl ⟨rfl, rfl, by rw [show (k : Int) = 1365 by omega], rfl⟩
    · refine x_aload_n C dX6_takeBack_9 rfl ?_
      refine x_getfield C dX6_takeBack_10 lfX6_7 hM (by omega) rfl ?_
      refine x_iload_n C dX6_takeBack_13 rfl ?_
      refine x_aload_n C dX6_takeBack_14 rfl ?_
      refine x_getfield C dX6_takeBack_15 lfX6_13 hM (by omega) rfl ?_
      refine x_iload_n C dX6_takeBack_18 rfl ?_
      refine x_iaload C dX6_takeBack_19 hA (by omega) ?_
      refine x_iastore C dX6_takeBack_20 hS0 (by omega) ?_
      refine x_nm (fun s20 e20 => ?_)
      have hM := (congrFun e20 145).trans ((zsu_n _ _ (by omega)).trans hM)
      have hS0 := (congrFun e20 146).trans (zsu_s _ _ _)
      have hA := (congrFun e20 147).trans ((zsu_n _ _ (by omega)).trans hA)
      have ih := ih (by omega)
      rw [show ((k + 1 : Nat) : Int) = (k : Int) + 1 by omega, ← zcpy_s _ _ (show 0 ≤ (k : Int) by omega)] at ih
      rw [e20, zsu_u]
      refine x_iinc C dX6_takeBack_21 rfl (by decide) ?_
      refine x_goto (tgt := 2) C dX6_takeBack_24 (by decide) ?_
      exact ih
  refine x_iconst C dX6_takeBack_0 ?_
  refine x_istore_n C dX6_takeBack_1 (by decide) ?_
  have h0 := loop 0 (by omega)
  rw [show ((0 : Nat) : Int) = 0 from rfl, zcpy_0, zsu_self hS0] at h0
  exact h0
theorem ctX6_records {um L p lv br bc : Int} {wl : Bool} {U : Int → Int} (hM : σ 145 = zMO um L p wl lv br bc) (hS0 : σ 146 = zA 1365 S) (hU : σ 148 = zA 8190 U) (hn : 155 ≤ n) (hu : 0 ≤ um ∧ um ≤ 6) : zCt 1 0 0 yX6_records cX6_records 2 none [zr 145] n σ none n (zsu (zsu σ 148 (zA 8190 (zU2 um U S))) 145 (zMO (zu1 um + 1) L p wl lv br bc)) := by
  refine zCt.of (by decide) rfl (Nat.le_of_ble_eq_true rfl) (fun K C => ?_)
  have sec : ∀ k : Nat, k ≤ 1365 → K 52 [some (zr 145), some (zi (k : Int))] [] n (zsu (zsu σ 148 (zA 8190 (fun j => if 1365 * zu1 um ≤ j ∧ j < 1365 * zu1 um + k then S (j - 1365 * zu1 um) else zU1 um U j))) 145 (zMO (zu1 um) L p wl lv br bc)) 0 := by
    have hv : 0 ≤ zu1 um ∧ zu1 um ≤ 5 := by
      unfold zu1
      split <;> omega
    have hf : zU2 um U S = fun j => if 1365 * zu1 um ≤ j ∧ j < 1365 * zu1 um + 1365 then S (j - 1365 * zu1 um) else zU1 um U j := rfl
    generalize zu1 um = v at *
    generalize zU1 um U = V at *
    refine zloop _ 1365 (fun k hk ih => ?_)
    generalize hW : (fun j => if 1365 * v ≤ j ∧ j < 1365 * v + (k : Int) then S (j - 1365 * v) else V j) = W
    have hM := zsu_s (zsu σ 148 (zA 8190 W)) 145 (zMO v L p wl lv br bc)
    have hU := (zsu_n (zsu σ 148 (zA 8190 W)) (zMO v L p wl lv br bc) (show (148 : Int) ≠ 145 by decide)).trans (zsu_s σ 148 (zA 8190 W))
    have hS0 := ((zsu_n (zsu σ 148 (zA 8190 W)) (zMO v L p wl lv br bc) (show (146 : Int) ≠ 145 by decide)).trans (zsu_n σ (zA 8190 W) (show (146 : Int) ≠ 148 by decide))).trans hS0
    refine x_iload_n C dX6_records_52 rfl ?_
    refine x_sipush C dX6_records_53 (by decide) ?_
    refine x_icmp_ge (tgt := 86) C dX6_records_56 (by decide) (by omega) (fun c56 => ?_) (fun c56 => ?_)
    · refine x_aload_n C dX6_records_86 rfl ?_
      refine x_dup C dX6_records_87 rfl ?_
      refine x_getfield C dX6_records_88 lfX6_53 hM (by omega) rfl ?_
      refine x_iconst C dX6_records_91 ?_
      refine x_iadd C dX6_records_92 ?_
      refine x_putI C dX6_records_93 lfX6_53 lyX6_4 hM (by omega) (Nat.le_of_ble_eq_true rfl) ?_
      refine x_nm (fun s93 e93 => ?_)
      have hM := (congrFun e93 145).trans (zsu_s _ _ _)
      have hS0 := (congrFun e93 146).trans ((zsu_n _ _ (by omega)).trans hS0)
      have hU := (congrFun e93 148).trans ((zsu_n _ _ (by omega)).trans hU)
      exact x_vret (st := []) C dX6_records_96 rfl ⟨rfl, rfl, by rw [e93, zsu_u, hf, ← hW, show (k : Int) = 1365 by omega]; rfl, rfl⟩
    · refine x_aload_n C dX6_records_59 rfl ?_
      refine x_getfield C dX6_records_60 lfX6_16 hM (by omega) rfl ?_
      refine x_sipush C dX6_records_63 (by decide) ?_
      refine x_aload_n C dX6_records_66 rfl ?_
      refine x_getfield C dX6_records_67 lfX6_53 hM (by omega) rfl ?_
      refine x_imul C dX6_records_70 ?_
      refine x_iload_n C dX6_records_71 rfl ?_
      refine x_iadd C dX6_records_72 ?_
      refine x_aload_n C dX6_records_73 rfl ?_
      refine x_getfield C dX6_records_74 lfX6_7 hM (by omega) rfl ?_
      refine x_iload_n C dX6_records_77 rfl ?_
      refine x_iaload C dX6_records_78 hS0 (by omega) ?_
      refine x_iastore C dX6_records_79 hU (by omega) ?_
      refine x_nm (fun s79 e79 => ?_)
      have hM := (congrFun e79 145).trans ((zsu_n _ _ (by omega)).trans hM)
      have hS0 := (congrFun e79 146).trans ((zsu_n _ _ (by omega)).trans hS0)
      have hU := (congrFun e79 148).trans (zsu_s _ _ _)
      have ih := ih (by omega)
      rw [show (fun j => if 1365 * v ≤ j ∧ j < 1365 * v + ((k + 1 : Nat) : Int) then S (j - 1365 * v) else V j) = zu W (1365 * v + k) (S k) by
        rw [← hW]
        funext j
        unfold zu
        by_cases c : j = 1365 * v + k
        · rw [if_pos c, if_pos (by omega), show j - 1365 * v = k by omega]
        · rw [if_neg c]
          dsimp only
          by_cases c2 : 1365 * v ≤ j ∧ j < 1365 * v + (k : Int)
          · rw [if_pos c2, if_pos (by omega)]
          · rw [if_neg c2, if_neg (by omega)]] at ih
      rw [e79, zsu_comm _ _ _ (show (145 : Int) ≠ 148 by decide), zsu_u]
      refine x_iinc C dX6_records_80 rfl (by decide) ?_
      refine x_goto (tgt := 52) C dX6_records_83 (by decide) ?_
      exact ih
  have fir : um = 6 → ∀ k : Nat, k ≤ 6825 → K 11 [some (zr 145), some (zi (k : Int))] [] n (zsu σ 148 (zA 8190 (fun j => if 0 ≤ j ∧ j < (k : Int) then U (j + 1365) else U j))) 0 := by
    intro h6
    refine zloop _ 6825 (fun k hk ih => ?_)
    generalize hW : (fun j => if 0 ≤ j ∧ j < (k : Int) then U (j + 1365) else U j) = W
    have hM := (zsu_n σ (zA 8190 W) (show (145 : Int) ≠ 148 by decide)).trans hM
    have hU := zsu_s σ 148 (zA 8190 W)
    refine x_iload_n C dX6_records_11 rfl ?_
    refine x_sipush C dX6_records_12 (by decide) ?_
    refine x_icmp_ge (tgt := 40) C dX6_records_15 (by decide) (by omega) (fun c15 => ?_) (fun c15 => ?_)
    · refine x_aload_n C dX6_records_40 rfl ?_
      refine x_dup C dX6_records_41 rfl ?_
      refine x_getfield C dX6_records_42 lfX6_53 hM (by omega) rfl ?_
      refine x_iconst C dX6_records_45 ?_
      refine x_isub C dX6_records_46 ?_
      refine x_putI C dX6_records_47 lfX6_53 lyX6_4 hM (by omega) (Nat.le_of_ble_eq_true rfl) ?_
      refine x_nm (fun s47 e47 => ?_)
      have hM := (congrFun e47 145).trans (zsu_s _ _ _)
      have hS0 := (congrFun e47 146).trans ((zsu_n _ _ (by omega)).trans hS0)
      have hU := (congrFun e47 148).trans ((zsu_n _ _ (by omega)).trans hU)
      have s0 := sec 0 (by omega)
      rw [show (fun j => if 1365 * zu1 um ≤ j ∧ j < 1365 * zu1 um + ((0 : Nat) : Int) then S (j - 1365 * zu1 um) else zU1 um U j) = W by
        rw [← hW]
        funext j
        rw [if_neg (by omega), zU1, if_pos h6, show (k : Int) = 6825 by omega], show zu1 um = 5 from if_pos h6] at s0
      refine x_iconst C dX6_records_50 ?_
      refine x_istore_n C dX6_records_51 (by decide) ?_
      rw [e47]
      rw [show um - 1 = 5 by omega]
      exact s0
    · refine x_aload_n C dX6_records_18 rfl ?_
      refine x_getfield C dX6_records_19 lfX6_16 hM (by omega) rfl ?_
      refine x_iload_n C dX6_records_22 rfl ?_
      refine x_aload_n C dX6_records_23 rfl ?_
      refine x_getfield C dX6_records_24 lfX6_16 hM (by omega) rfl ?_
      refine x_iload_n C dX6_records_27 rfl ?_
      refine x_sipush C dX6_records_28 (by decide) ?_
      refine x_iadd C dX6_records_31 ?_
      refine x_iaload C dX6_records_32 hU (by omega) ?_
      refine x_iastore C dX6_records_33 hU (by omega) ?_
      refine x_nm (fun s33 e33 => ?_)
      have hM := (congrFun e33 145).trans ((zsu_n _ _ (by omega)).trans hM)
      have hS0 := (congrFun e33 146).trans ((zsu_n _ _ (by omega)).trans hS0)
      have hU := (congrFun e33 148).trans (zsu_s _ _ _)
      have ih := ih (by omega)
      rw [show (fun j => if 0 ≤ j ∧ j < ((k + 1 : Nat) : Int) then U (j + 1365) else U j) = zu W k (W (k + 1365)) by
        rw [← hW]
        funext j
        unfold zu
        by_cases c : j = k
        · rw [if_pos c, if_pos (by omega)]
          dsimp only
          rw [if_neg (by omega), c]
        · rw [if_neg c]
          dsimp only
          by_cases c2 : 0 ≤ j ∧ j < (k : Int)
          · rw [if_pos c2, if_pos (by omega)]
          · rw [if_neg c2, if_neg (by omega)]] at ih
      rw [e33, zsu_u]
      refine x_iinc C dX6_records_34 rfl (by decide) ?_
      refine x_goto (tgt := 11) C dX6_records_37 (by decide) ?_
      exact ih
  refine x_aload_n C dX6_records_0 rfl ?_
  refine x_getfield C dX6_records_1 lfX6_53 hM (by omega) rfl ?_
  refine x_bipush C dX6_records_4 (by decide) ?_
  refine x_icmp_ne (tgt := 50) C dX6_records_6 (by decide) (by omega) (fun c6 => ?_) (fun c6 => ?_)
  · have s0 := sec 0 (by omega)
    rw [show (fun j => if 1365 * zu1 um ≤ j ∧ j < 1365 * zu1 um + ((0 : Nat) : Int) then S (j - 1365 * zu1 um) else zU1 um U j) = U by
      funext j
      rw [if_neg (by omega), zU1, if_neg c6], show zu1 um = um from if_neg c6, zsu_self hU, zsu_self hM] at s0
    refine x_iconst C dX6_records_50 ?_
    refine x_istore_n C dX6_records_51 (by decide) ?_
    exact s0
  · refine x_iconst C dX6_records_9 ?_
    refine x_istore_n C dX6_records_10 (by decide) ?_
    have f0 := fir c6 0 (by omega)
    rw [show (fun j => if 0 ≤ j ∧ j < ((0 : Nat) : Int) then U (j + 1365) else U j) = U from funext fun j => if_neg (by omega), zsu_self hU] at f0
    exact f0
theorem ctX6_counts {um L p lv br bc : Int} {wl : Bool} {U : Int → Int} (hM : σ 145 = zMO um L p wl lv br bc) (hS0 : σ 146 = zA 1365 S) (hU : σ 148 = zA 8190 U) (hn : 155 ≤ n) (hu : 0 ≤ um ∧ um ≤ 6) : zCt 2 0 0 yX6_counts cX6_counts 1 none [zr 145] n σ none n (zsu (zsu (zsu σ 148 (zA 8190 (zU2 um U S))) 145 (zMO (zu1 um + 1) L p wl lv br bc)) 146 (zA 1365 (zu S 1364 (S 1364 + 1)))) := by
  refine zCt.of (by decide) rfl (Nat.le_of_ble_eq_true rfl) (fun K C => ?_)
  refine x_aload_n C dX6_counts_0 rfl ?_
  refine x_callV C dX6_counts_1 (ctX6_records hM hS0 hU hn hu) okX6_records lkX6_56 ⟨⟨hM, rfl, rfl⟩, (by omega)⟩ ⟨by decide, rfl, rfl, Nat.le_of_ble_eq_true rfl⟩ rfl (Or.inl ⟨rfl, rfl⟩) ?_
  refine x_nm (fun s1 e1 => ?_)
  have hM := (congrFun e1 145).trans (zsu_s _ _ _)
  have hS0 := ((congrFun e1 146).trans (zsu_n _ _ (by decide))).trans ((zsu_n _ _ (by decide)).trans hS0)
  refine x_aload_n C dX6_counts_4 rfl ?_
  refine x_getfield C dX6_counts_5 lfX6_7 hM (by omega) rfl ?_
  refine x_sipush C dX6_counts_8 (by decide) ?_
  refine x_dup2 C dX6_counts_11 ⟨rfl, rfl⟩ ?_
  refine x_iaload C dX6_counts_12 hS0 (by omega) ?_
  refine x_iconst C dX6_counts_13 ?_
  refine x_iadd C dX6_counts_14 ?_
  refine x_iastore C dX6_counts_15 hS0 (by omega) ?_
  refine x_nm (fun s15 e15 => ?_)
  have hM := (congrFun e15 145).trans ((zsu_n _ _ (by omega)).trans hM)
  have hS0 := (congrFun e15 146).trans (zsu_s _ _ _)
  exact x_vret (st := []) C dX6_counts_16 rfl ⟨rfl, rfl, by rw [e15, e1], rfl⟩
end
